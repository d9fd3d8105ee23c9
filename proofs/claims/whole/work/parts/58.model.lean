/-! THE REFERENCE'S STATE: its fields f, its arrays as lists of what is known of them (Al), all else as it was (A). Written by wip/whole/mkM.py -/
def ms (z : zS) (f : Nat → Int32) (A : Nat → Nat → Int32) (Al : Nat → List Nat) : zS := (z.1, fun a k => if a = 136 then f k else z.2.1 a k, fun a i => if 137 ≤ a ∧ i < (Al a).length then nI ((Al a).getD i 0) else A a i, z.2.2.2)
theorem ms_forget {z : zS} {f : Nat → Int32} {A : Nat → Nat → Int32} {Al : Nat → List Nat} (a : Nat) : ∃ A', ms z f A Al = ms z f A' (va_up Al a []) ∧ A' 0 = A 0 := by
  refine ⟨fun b i => if b = a ∧ 137 ≤ b ∧ i < (Al b).length then nI ((Al b).getD i 0) else A b i, ?_, ?_⟩
  · unfold ms
    refine Prod.ext rfl (Prod.ext rfl (Prod.ext (funext fun b => funext fun i => ?_) rfl))
    simp only
    by_cases h : b = a
    · subst h
      rw [va_up_self]
      simp only [List.length_nil, Nat.not_lt_zero, and_false, if_false, true_and]
    · rw [va_up_ne _ _ h]
      simp only [h, false_and, if_false]
  · funext i
    simp
theorem ms_field {z : zS} {f : Nat → Int32} {A : Nat → Nat → Int32} {Al : Nat → List Nat} (k : Nat) (x : Int32) : ((ms z f A Al).1, zup (ms z f A Al).2.1 136 k x, (ms z f A Al).2.2) = ms z (va_up f k x) A Al := by
  refine Prod.ext rfl (Prod.ext (funext fun a => funext fun g => ?_) rfl)
  unfold zup ms va_up
  simp only
  by_cases h : a = 136 ∧ g = k
  · rw [if_pos h, if_pos h.1, if_pos h.2]
  · rw [if_neg h]
    by_cases h3 : a = 136
    · rw [if_pos h3, if_pos h3, if_neg (fun q => h ⟨h3, q⟩)]
    · rw [if_neg h3, if_neg h3]
theorem ms_app {z : zS} {f : Nat → Int32} {A : Nat → Nat → Int32} {Al : Nat → List Nat} {a j v : Nat} (ha : 137 ≤ a) (hj : (Al a).length = j) : ((ms z f A Al).1, (ms z f A Al).2.1, zup (ms z f A Al).2.2.1 a j (nI v), (ms z f A Al).2.2.2) = ms z f A (va_up Al a (Al a ++ [v])) := by
  subst hj
  refine Prod.ext rfl (Prod.ext rfl (Prod.ext (funext fun b => funext fun i => ?_) rfl))
  unfold zup ms va_up
  simp only
  by_cases h : b = a
  · subst h
    simp only [true_and, ha, if_true, List.length_append, List.length_cons, List.length_nil]
    by_cases h2 : i = (Al b).length
    · subst h2
      simp [List.getD]
    · rw [if_neg h2]
      by_cases h3 : i < (Al b).length
      · rw [if_pos h3, if_pos (by omega)]
        simp [List.getD, List.getElem?_append, h3]
      · rw [if_neg h3, if_neg (by omega)]
  · simp only [h, false_and, if_false]
theorem ms_set {z : zS} {f : Nat → Int32} {A : Nat → Nat → Int32} {Al : Nat → List Nat} {a j v : Nat} (ha : 137 ≤ a) (hj : j < (Al a).length) : ((ms z f A Al).1, (ms z f A Al).2.1, zup (ms z f A Al).2.2.1 a j (nI v), (ms z f A Al).2.2.2) = ms z f A (va_up Al a ((Al a).set j v)) := by
  refine Prod.ext rfl (Prod.ext rfl (Prod.ext (funext fun b => funext fun i => ?_) rfl))
  unfold zup ms va_up
  simp only
  by_cases h : b = a
  · subst h
    simp only [true_and, ha, if_true, List.length_set]
    by_cases h2 : i = j
    · subst h2
      rw [if_pos rfl, if_pos hj]
      simp [List.getD, hj]
    · rw [if_neg h2]
      by_cases h3 : i < (Al b).length
      · rw [if_pos h3, if_pos h3]
        simp [List.getD, List.getElem?_set, Ne.symm h2]
      · rw [if_neg h3, if_neg h3]
  · simp only [h, false_and, if_false]
theorem ms_load {z : zS} {f : Nat → Int32} {A : Nat → Nat → Int32} {Al : Nat → List Nat} {a j : Nat} (ha : 137 ≤ a) (hj : j < (Al a).length) : (ms z f A Al).2.2.1 a j = nI ((Al a).getD j 0) := if_pos ⟨ha, hj⟩
theorem ms_id (z : zS) : z = ms z (z.2.1 136) z.2.2.1 (fun _ => []) := by
  unfold ms
  refine Prod.ext rfl (Prod.ext (funext fun a => funext fun k => ?_) (Prod.ext (funext fun a => funext fun i => ?_) rfl))
  · simp only
    split
    · rename_i h; rw [h]
    · rfl
  · simp
section
variable {L : Nat} {z : zS} {f : Nat → Int32} {A : Nat → Nat → Int32} {Al : Nat → List Nat} {j : Nat}
theorem M1r : (O2 L).1 (ms z f A Al) 136 8 1 = some (f 1) := (J136_1 _).trans (congrArg some rfl)
theorem M1p (x : Int32) : (O2 L).2.2.1 (ms z f A Al) 136 8 1 (.int x) = some (ms z (va_up f 1 x) A Al) := by rw [K136_1, ms_field]
theorem M3r : (O2 L).1 (ms z f A Al) 136 8 3 = some (f 3) := (J136_3 _).trans (congrArg some rfl)
theorem M3p (x : Int32) : (O2 L).2.2.1 (ms z f A Al) 136 8 3 (.int x) = some (ms z (va_up f 3 x) A Al) := by rw [K136_3, ms_field]
theorem M4r : (O2 L).1 (ms z f A Al) 136 8 4 = some (f 4) := (J136_4 _).trans (congrArg some rfl)
theorem M4p (x : Int32) : (O2 L).2.2.1 (ms z f A Al) 136 8 4 (.int x) = some (ms z (va_up f 4 x) A Al) := by rw [K136_4, ms_field]
theorem M10r : (O2 L).1 (ms z f A Al) 136 8 10 = some (f 10) := (J136_10 _).trans (congrArg some rfl)
theorem M10p (x : Int32) : (O2 L).2.2.1 (ms z f A Al) 136 8 10 (.int x) = some (ms z (va_up f 10 x) A Al) := by rw [K136_10, ms_field]
theorem M14r : (O2 L).1 (ms z f A Al) 136 8 14 = some (f 14) := (J136_14 _).trans (congrArg some rfl)
theorem M14p (x : Int32) : (O2 L).2.2.1 (ms z f A Al) 136 8 14 (.int x) = some (ms z (va_up f 14 x) A Al) := by rw [K136_14, ms_field]
theorem M19r : (O2 L).1 (ms z f A Al) 136 8 19 = some (f 19) := (J136_19 _).trans (congrArg some rfl)
theorem M19p (x : Int32) : (O2 L).2.2.1 (ms z f A Al) 136 8 19 (.int x) = some (ms z (va_up f 19 x) A Al) := by rw [K136_19, ms_field]
theorem M21r : (O2 L).1 (ms z f A Al) 136 8 21 = some (f 21) := (J136_21 _).trans (congrArg some rfl)
theorem M21p (x : Int32) : (O2 L).2.2.1 (ms z f A Al) 136 8 21 (.int x) = some (ms z (va_up f 21 x) A Al) := by rw [K136_21, ms_field]
theorem M25r : (O2 L).1 (ms z f A Al) 136 8 25 = some (f 25) := (J136_25 _).trans (congrArg some rfl)
theorem M25p (x : Int32) : (O2 L).2.2.1 (ms z f A Al) 136 8 25 (.int x) = some (ms z (va_up f 25 x) A Al) := by rw [K136_25, ms_field]
theorem M30r : (O2 L).1 (ms z f A Al) 136 8 30 = some (f 30) := (J136_30 _).trans (congrArg some rfl)
theorem M30p (x : Int32) : (O2 L).2.2.1 (ms z f A Al) 136 8 30 (.int x) = some (ms z (va_up f 30 x) A Al) := by rw [K136_30, ms_field]
theorem M36r : (O2 L).1 (ms z f A Al) 136 8 36 = some (f 36) := (J136_36 _).trans (congrArg some rfl)
theorem M36p (x : Int32) : (O2 L).2.2.1 (ms z f A Al) 136 8 36 (.int x) = some (ms z (va_up f 36 x) A Al) := by rw [K136_36, ms_field]
theorem M43r : (O2 L).1 (ms z f A Al) 136 8 43 = some (f 43) := (J136_43 _).trans (congrArg some rfl)
theorem M43p (x : Int32) : (O2 L).2.2.1 (ms z f A Al) 136 8 43 (.int x) = some (ms z (va_up f 43 x) A Al) := by rw [K136_43, ms_field]
theorem M47r : (O2 L).1 (ms z f A Al) 136 8 47 = some (f 47) := (J136_47 _).trans (congrArg some rfl)
theorem M47p (x : Int32) : (O2 L).2.2.1 (ms z f A Al) 136 8 47 (.int x) = some (ms z (va_up f 47 x) A Al) := by rw [K136_47, ms_field]
theorem M48r : (O2 L).1 (ms z f A Al) 136 8 48 = some (f 48) := (J136_48 _).trans (congrArg some rfl)
theorem M48p (x : Int32) : (O2 L).2.2.1 (ms z f A Al) 136 8 48 (.int x) = some (ms z (va_up f 48 x) A Al) := by rw [K136_48, ms_field]
theorem M51r : (O2 L).1 (ms z f A Al) 136 8 51 = some (f 51) := (J136_51 _).trans (congrArg some rfl)
theorem M51p (x : Int32) : (O2 L).2.2.1 (ms z f A Al) 136 8 51 (.int x) = some (ms z (va_up f 51 x) A Al) := by rw [K136_51, ms_field]
theorem M55r : (O2 L).1 (ms z f A Al) 136 8 55 = some (f 55) := (J136_55 _).trans (congrArg some rfl)
theorem M55p (x : Int32) : (O2 L).2.2.1 (ms z f A Al) 136 8 55 (.int x) = some (ms z (va_up f 55 x) A Al) := by rw [K136_55, ms_field]
theorem M59r : (O2 L).1 (ms z f A Al) 136 8 59 = some (f 59) := (J136_59 _).trans (congrArg some rfl)
theorem M59p (x : Int32) : (O2 L).2.2.1 (ms z f A Al) 136 8 59 (.int x) = some (ms z (va_up f 59 x) A Al) := by rw [K136_59, ms_field]
theorem M64r : (O2 L).1 (ms z f A Al) 136 8 64 = some (f 64) := (J136_64 _).trans (congrArg some rfl)
theorem M64p (x : Int32) : (O2 L).2.2.1 (ms z f A Al) 136 8 64 (.int x) = some (ms z (va_up f 64 x) A Al) := by rw [K136_64, ms_field]
theorem M66r : (O2 L).1 (ms z f A Al) 136 8 66 = some (f 66) := (J136_66 _).trans (congrArg some rfl)
theorem M66p (x : Int32) : (O2 L).2.2.1 (ms z f A Al) 136 8 66 (.int x) = some (ms z (va_up f 66 x) A Al) := by rw [K136_66, ms_field]
theorem M67r : (O2 L).1 (ms z f A Al) 136 8 67 = some (f 67) := (J136_67 _).trans (congrArg some rfl)
theorem M67p (x : Int32) : (O2 L).2.2.1 (ms z f A Al) 136 8 67 (.int x) = some (ms z (va_up f 67 x) A Al) := by rw [K136_67, ms_field]
theorem M68r : (O2 L).1 (ms z f A Al) 136 8 68 = some (f 68) := (J136_68 _).trans (congrArg some rfl)
theorem M68p (x : Int32) : (O2 L).2.2.1 (ms z f A Al) 136 8 68 (.int x) = some (ms z (va_up f 68 x) A Al) := by rw [K136_68, ms_field]
theorem M69r : (O2 L).1 (ms z f A Al) 136 8 69 = some (f 69) := (J136_69 _).trans (congrArg some rfl)
theorem M69p (x : Int32) : (O2 L).2.2.1 (ms z f A Al) 136 8 69 (.int x) = some (ms z (va_up f 69 x) A Al) := by rw [K136_69, ms_field]
theorem L137 (hj : j < (Al 137).length) (hn : j < 1000) : (O2 L).2.2.2.2.2.1 (ms z f A Al) 0 137 (nI j) = some (nI ((Al 137).getD j 0)) := by rw [aL rfl rfl _ hn, ms_load (by omega) hj]
theorem A137 (v : Nat) (hj : (Al 137).length = j) (hn : j < 1000) : (O2 L).2.2.2.2.2.2.1 (ms z f A Al) 0 137 (nI j) (nI v) = some (ms z f A (va_up Al 137 (Al 137 ++ [v]))) := by rw [aS rfl _ _ hn, ms_app (by omega) hj]
theorem U137 (v : Nat) (hj : j < (Al 137).length) (hn : j < 1000) : (O2 L).2.2.2.2.2.2.1 (ms z f A Al) 0 137 (nI j) (nI v) = some (ms z f A (va_up Al 137 ((Al 137).set j v))) := by rw [aS rfl _ _ hn, ms_set (by omega) hj]
theorem L138 (hj : j < (Al 138).length) (hn : j < 1000) : (O2 L).2.2.2.2.2.1 (ms z f A Al) 0 138 (nI j) = some (nI ((Al 138).getD j 0)) := by rw [aL rfl rfl _ hn, ms_load (by omega) hj]
theorem A138 (v : Nat) (hj : (Al 138).length = j) (hn : j < 1000) : (O2 L).2.2.2.2.2.2.1 (ms z f A Al) 0 138 (nI j) (nI v) = some (ms z f A (va_up Al 138 (Al 138 ++ [v]))) := by rw [aS rfl _ _ hn, ms_app (by omega) hj]
theorem U138 (v : Nat) (hj : j < (Al 138).length) (hn : j < 1000) : (O2 L).2.2.2.2.2.2.1 (ms z f A Al) 0 138 (nI j) (nI v) = some (ms z f A (va_up Al 138 ((Al 138).set j v))) := by rw [aS rfl _ _ hn, ms_set (by omega) hj]
theorem L139 (hj : j < (Al 139).length) (hn : j < 1000) : (O2 L).2.2.2.2.2.1 (ms z f A Al) 0 139 (nI j) = some (nI ((Al 139).getD j 0)) := by rw [aL rfl rfl _ hn, ms_load (by omega) hj]
theorem A139 (v : Nat) (hj : (Al 139).length = j) (hn : j < 1000) : (O2 L).2.2.2.2.2.2.1 (ms z f A Al) 0 139 (nI j) (nI v) = some (ms z f A (va_up Al 139 (Al 139 ++ [v]))) := by rw [aS rfl _ _ hn, ms_app (by omega) hj]
theorem U139 (v : Nat) (hj : j < (Al 139).length) (hn : j < 1000) : (O2 L).2.2.2.2.2.2.1 (ms z f A Al) 0 139 (nI j) (nI v) = some (ms z f A (va_up Al 139 ((Al 139).set j v))) := by rw [aS rfl _ _ hn, ms_set (by omega) hj]
theorem L140 (hj : j < (Al 140).length) (hn : j < 1000) : (O2 L).2.2.2.2.2.1 (ms z f A Al) 0 140 (nI j) = some (nI ((Al 140).getD j 0)) := by rw [aL rfl rfl _ hn, ms_load (by omega) hj]
theorem A140 (v : Nat) (hj : (Al 140).length = j) (hn : j < 1000) : (O2 L).2.2.2.2.2.2.1 (ms z f A Al) 0 140 (nI j) (nI v) = some (ms z f A (va_up Al 140 (Al 140 ++ [v]))) := by rw [aS rfl _ _ hn, ms_app (by omega) hj]
theorem U140 (v : Nat) (hj : j < (Al 140).length) (hn : j < 1000) : (O2 L).2.2.2.2.2.2.1 (ms z f A Al) 0 140 (nI j) (nI v) = some (ms z f A (va_up Al 140 ((Al 140).set j v))) := by rw [aS rfl _ _ hn, ms_set (by omega) hj]
theorem L141 (hj : j < (Al 141).length) (hn : j < 1000) : (O2 L).2.2.2.2.2.1 (ms z f A Al) 0 141 (nI j) = some (nI ((Al 141).getD j 0)) := by rw [aL rfl rfl _ hn, ms_load (by omega) hj]
theorem A141 (v : Nat) (hj : (Al 141).length = j) (hn : j < 1000) : (O2 L).2.2.2.2.2.2.1 (ms z f A Al) 0 141 (nI j) (nI v) = some (ms z f A (va_up Al 141 (Al 141 ++ [v]))) := by rw [aS rfl _ _ hn, ms_app (by omega) hj]
theorem U141 (v : Nat) (hj : j < (Al 141).length) (hn : j < 1000) : (O2 L).2.2.2.2.2.2.1 (ms z f A Al) 0 141 (nI j) (nI v) = some (ms z f A (va_up Al 141 ((Al 141).set j v))) := by rw [aS rfl _ _ hn, ms_set (by omega) hj]
theorem L142 (hj : j < (Al 142).length) (hn : j < 1001) : (O2 L).2.2.2.2.2.1 (ms z f A Al) 1 142 (nI j) = some (nI ((Al 142).getD j 0)) := by rw [aL rfl rfl _ hn, ms_load (by omega) hj]
theorem A142 (v : Nat) (hj : (Al 142).length = j) (hn : j < 1001) : (O2 L).2.2.2.2.2.2.1 (ms z f A Al) 1 142 (nI j) (nI v) = some (ms z f A (va_up Al 142 (Al 142 ++ [v]))) := by rw [aS rfl _ _ hn, ms_app (by omega) hj]
theorem U142 (v : Nat) (hj : j < (Al 142).length) (hn : j < 1001) : (O2 L).2.2.2.2.2.2.1 (ms z f A Al) 1 142 (nI j) (nI v) = some (ms z f A (va_up Al 142 ((Al 142).set j v))) := by rw [aS rfl _ _ hn, ms_set (by omega) hj]
theorem L143 (hj : j < (Al 143).length) (hn : j < 1001) : (O2 L).2.2.2.2.2.1 (ms z f A Al) 1 143 (nI j) = some (nI ((Al 143).getD j 0)) := by rw [aL rfl rfl _ hn, ms_load (by omega) hj]
theorem A143 (v : Nat) (hj : (Al 143).length = j) (hn : j < 1001) : (O2 L).2.2.2.2.2.2.1 (ms z f A Al) 1 143 (nI j) (nI v) = some (ms z f A (va_up Al 143 (Al 143 ++ [v]))) := by rw [aS rfl _ _ hn, ms_app (by omega) hj]
theorem U143 (v : Nat) (hj : j < (Al 143).length) (hn : j < 1001) : (O2 L).2.2.2.2.2.2.1 (ms z f A Al) 1 143 (nI j) (nI v) = some (ms z f A (va_up Al 143 ((Al 143).set j v))) := by rw [aS rfl _ _ hn, ms_set (by omega) hj]
theorem L144 (hj : j < (Al 144).length) (hn : j < 400) : (O2 L).2.2.2.2.2.1 (ms z f A Al) 0 144 (nI j) = some (nI ((Al 144).getD j 0)) := by rw [aL rfl rfl _ hn, ms_load (by omega) hj]
theorem A144 (v : Nat) (hj : (Al 144).length = j) (hn : j < 400) : (O2 L).2.2.2.2.2.2.1 (ms z f A Al) 0 144 (nI j) (nI v) = some (ms z f A (va_up Al 144 (Al 144 ++ [v]))) := by rw [aS rfl _ _ hn, ms_app (by omega) hj]
theorem U144 (v : Nat) (hj : j < (Al 144).length) (hn : j < 400) : (O2 L).2.2.2.2.2.2.1 (ms z f A Al) 0 144 (nI j) (nI v) = some (ms z f A (va_up Al 144 ((Al 144).set j v))) := by rw [aS rfl _ _ hn, ms_set (by omega) hj]
theorem L145 (hj : j < (Al 145).length) (hn : j < 400) : (O2 L).2.2.2.2.2.1 (ms z f A Al) 0 145 (nI j) = some (nI ((Al 145).getD j 0)) := by rw [aL rfl rfl _ hn, ms_load (by omega) hj]
theorem A145 (v : Nat) (hj : (Al 145).length = j) (hn : j < 400) : (O2 L).2.2.2.2.2.2.1 (ms z f A Al) 0 145 (nI j) (nI v) = some (ms z f A (va_up Al 145 (Al 145 ++ [v]))) := by rw [aS rfl _ _ hn, ms_app (by omega) hj]
theorem U145 (v : Nat) (hj : j < (Al 145).length) (hn : j < 400) : (O2 L).2.2.2.2.2.2.1 (ms z f A Al) 0 145 (nI j) (nI v) = some (ms z f A (va_up Al 145 ((Al 145).set j v))) := by rw [aS rfl _ _ hn, ms_set (by omega) hj]
theorem L146 (hj : j < (Al 146).length) (hn : j < 400) : (O2 L).2.2.2.2.2.1 (ms z f A Al) 1 146 (nI j) = some (nI ((Al 146).getD j 0)) := by rw [aL rfl rfl _ hn, ms_load (by omega) hj]
theorem A146 (v : Nat) (hj : (Al 146).length = j) (hn : j < 400) : (O2 L).2.2.2.2.2.2.1 (ms z f A Al) 1 146 (nI j) (nI v) = some (ms z f A (va_up Al 146 (Al 146 ++ [v]))) := by rw [aS rfl _ _ hn, ms_app (by omega) hj]
theorem U146 (v : Nat) (hj : j < (Al 146).length) (hn : j < 400) : (O2 L).2.2.2.2.2.2.1 (ms z f A Al) 1 146 (nI j) (nI v) = some (ms z f A (va_up Al 146 ((Al 146).set j v))) := by rw [aS rfl _ _ hn, ms_set (by omega) hj]
theorem L147 (hj : j < (Al 147).length) (hn : j < 300) : (O2 L).2.2.2.2.2.1 (ms z f A Al) 0 147 (nI j) = some (nI ((Al 147).getD j 0)) := by rw [aL rfl rfl _ hn, ms_load (by omega) hj]
theorem A147 (v : Nat) (hj : (Al 147).length = j) (hn : j < 300) : (O2 L).2.2.2.2.2.2.1 (ms z f A Al) 0 147 (nI j) (nI v) = some (ms z f A (va_up Al 147 (Al 147 ++ [v]))) := by rw [aS rfl _ _ hn, ms_app (by omega) hj]
theorem U147 (v : Nat) (hj : j < (Al 147).length) (hn : j < 300) : (O2 L).2.2.2.2.2.2.1 (ms z f A Al) 0 147 (nI j) (nI v) = some (ms z f A (va_up Al 147 ((Al 147).set j v))) := by rw [aS rfl _ _ hn, ms_set (by omega) hj]
theorem L148 (hj : j < (Al 148).length) (hn : j < 300) : (O2 L).2.2.2.2.2.1 (ms z f A Al) 0 148 (nI j) = some (nI ((Al 148).getD j 0)) := by rw [aL rfl rfl _ hn, ms_load (by omega) hj]
theorem A148 (v : Nat) (hj : (Al 148).length = j) (hn : j < 300) : (O2 L).2.2.2.2.2.2.1 (ms z f A Al) 0 148 (nI j) (nI v) = some (ms z f A (va_up Al 148 (Al 148 ++ [v]))) := by rw [aS rfl _ _ hn, ms_app (by omega) hj]
theorem U148 (v : Nat) (hj : j < (Al 148).length) (hn : j < 300) : (O2 L).2.2.2.2.2.2.1 (ms z f A Al) 0 148 (nI j) (nI v) = some (ms z f A (va_up Al 148 ((Al 148).set j v))) := by rw [aS rfl _ _ hn, ms_set (by omega) hj]
theorem L149 (hj : j < (Al 149).length) (hn : j < 300) : (O2 L).2.2.2.2.2.1 (ms z f A Al) 0 149 (nI j) = some (nI ((Al 149).getD j 0)) := by rw [aL rfl rfl _ hn, ms_load (by omega) hj]
theorem A149 (v : Nat) (hj : (Al 149).length = j) (hn : j < 300) : (O2 L).2.2.2.2.2.2.1 (ms z f A Al) 0 149 (nI j) (nI v) = some (ms z f A (va_up Al 149 (Al 149 ++ [v]))) := by rw [aS rfl _ _ hn, ms_app (by omega) hj]
theorem U149 (v : Nat) (hj : j < (Al 149).length) (hn : j < 300) : (O2 L).2.2.2.2.2.2.1 (ms z f A Al) 0 149 (nI j) (nI v) = some (ms z f A (va_up Al 149 ((Al 149).set j v))) := by rw [aS rfl _ _ hn, ms_set (by omega) hj]
theorem L150 (hj : j < (Al 150).length) (hn : j < 300) : (O2 L).2.2.2.2.2.1 (ms z f A Al) 0 150 (nI j) = some (nI ((Al 150).getD j 0)) := by rw [aL rfl rfl _ hn, ms_load (by omega) hj]
theorem A150 (v : Nat) (hj : (Al 150).length = j) (hn : j < 300) : (O2 L).2.2.2.2.2.2.1 (ms z f A Al) 0 150 (nI j) (nI v) = some (ms z f A (va_up Al 150 (Al 150 ++ [v]))) := by rw [aS rfl _ _ hn, ms_app (by omega) hj]
theorem U150 (v : Nat) (hj : j < (Al 150).length) (hn : j < 300) : (O2 L).2.2.2.2.2.2.1 (ms z f A Al) 0 150 (nI j) (nI v) = some (ms z f A (va_up Al 150 ((Al 150).set j v))) := by rw [aS rfl _ _ hn, ms_set (by omega) hj]
theorem L151 (hj : j < (Al 151).length) (hn : j < 301) : (O2 L).2.2.2.2.2.1 (ms z f A Al) 0 151 (nI j) = some (nI ((Al 151).getD j 0)) := by rw [aL rfl rfl _ hn, ms_load (by omega) hj]
theorem A151 (v : Nat) (hj : (Al 151).length = j) (hn : j < 301) : (O2 L).2.2.2.2.2.2.1 (ms z f A Al) 0 151 (nI j) (nI v) = some (ms z f A (va_up Al 151 (Al 151 ++ [v]))) := by rw [aS rfl _ _ hn, ms_app (by omega) hj]
theorem U151 (v : Nat) (hj : j < (Al 151).length) (hn : j < 301) : (O2 L).2.2.2.2.2.2.1 (ms z f A Al) 0 151 (nI j) (nI v) = some (ms z f A (va_up Al 151 ((Al 151).set j v))) := by rw [aS rfl _ _ hn, ms_set (by omega) hj]
theorem L152 (hj : j < (Al 152).length) (hn : j < 12) : (O2 L).2.2.2.2.2.1 (ms z f A Al) 0 152 (nI j) = some (nI ((Al 152).getD j 0)) := by rw [aL rfl rfl _ hn, ms_load (by omega) hj]
theorem A152 (v : Nat) (hj : (Al 152).length = j) (hn : j < 12) : (O2 L).2.2.2.2.2.2.1 (ms z f A Al) 0 152 (nI j) (nI v) = some (ms z f A (va_up Al 152 (Al 152 ++ [v]))) := by rw [aS rfl _ _ hn, ms_app (by omega) hj]
theorem U152 (v : Nat) (hj : j < (Al 152).length) (hn : j < 12) : (O2 L).2.2.2.2.2.2.1 (ms z f A Al) 0 152 (nI j) (nI v) = some (ms z f A (va_up Al 152 ((Al 152).set j v))) := by rw [aS rfl _ _ hn, ms_set (by omega) hj]
theorem L153 (hj : j < (Al 153).length) (hn : j < 12) : (O2 L).2.2.2.2.2.1 (ms z f A Al) 0 153 (nI j) = some (nI ((Al 153).getD j 0)) := by rw [aL rfl rfl _ hn, ms_load (by omega) hj]
theorem A153 (v : Nat) (hj : (Al 153).length = j) (hn : j < 12) : (O2 L).2.2.2.2.2.2.1 (ms z f A Al) 0 153 (nI j) (nI v) = some (ms z f A (va_up Al 153 (Al 153 ++ [v]))) := by rw [aS rfl _ _ hn, ms_app (by omega) hj]
theorem U153 (v : Nat) (hj : j < (Al 153).length) (hn : j < 12) : (O2 L).2.2.2.2.2.2.1 (ms z f A Al) 0 153 (nI j) (nI v) = some (ms z f A (va_up Al 153 ((Al 153).set j v))) := by rw [aS rfl _ _ hn, ms_set (by omega) hj]
theorem L154 (hj : j < (Al 154).length) (hn : j < 12) : (O2 L).2.2.2.2.2.1 (ms z f A Al) 0 154 (nI j) = some (nI ((Al 154).getD j 0)) := by rw [aL rfl rfl _ hn, ms_load (by omega) hj]
theorem A154 (v : Nat) (hj : (Al 154).length = j) (hn : j < 12) : (O2 L).2.2.2.2.2.2.1 (ms z f A Al) 0 154 (nI j) (nI v) = some (ms z f A (va_up Al 154 (Al 154 ++ [v]))) := by rw [aS rfl _ _ hn, ms_app (by omega) hj]
theorem U154 (v : Nat) (hj : j < (Al 154).length) (hn : j < 12) : (O2 L).2.2.2.2.2.2.1 (ms z f A Al) 0 154 (nI j) (nI v) = some (ms z f A (va_up Al 154 ((Al 154).set j v))) := by rw [aS rfl _ _ hn, ms_set (by omega) hj]
theorem L155 (hj : j < (Al 155).length) (hn : j < 80) : (O2 L).2.2.2.2.2.1 (ms z f A Al) 0 155 (nI j) = some (nI ((Al 155).getD j 0)) := by rw [aL rfl rfl _ hn, ms_load (by omega) hj]
theorem A155 (v : Nat) (hj : (Al 155).length = j) (hn : j < 80) : (O2 L).2.2.2.2.2.2.1 (ms z f A Al) 0 155 (nI j) (nI v) = some (ms z f A (va_up Al 155 (Al 155 ++ [v]))) := by rw [aS rfl _ _ hn, ms_app (by omega) hj]
theorem U155 (v : Nat) (hj : j < (Al 155).length) (hn : j < 80) : (O2 L).2.2.2.2.2.2.1 (ms z f A Al) 0 155 (nI j) (nI v) = some (ms z f A (va_up Al 155 ((Al 155).set j v))) := by rw [aS rfl _ _ hn, ms_set (by omega) hj]
theorem L156 (hj : j < (Al 156).length) (hn : j < 80) : (O2 L).2.2.2.2.2.1 (ms z f A Al) 0 156 (nI j) = some (nI ((Al 156).getD j 0)) := by rw [aL rfl rfl _ hn, ms_load (by omega) hj]
theorem A156 (v : Nat) (hj : (Al 156).length = j) (hn : j < 80) : (O2 L).2.2.2.2.2.2.1 (ms z f A Al) 0 156 (nI j) (nI v) = some (ms z f A (va_up Al 156 (Al 156 ++ [v]))) := by rw [aS rfl _ _ hn, ms_app (by omega) hj]
theorem U156 (v : Nat) (hj : j < (Al 156).length) (hn : j < 80) : (O2 L).2.2.2.2.2.2.1 (ms z f A Al) 0 156 (nI j) (nI v) = some (ms z f A (va_up Al 156 ((Al 156).set j v))) := by rw [aS rfl _ _ hn, ms_set (by omega) hj]
theorem L157 (hj : j < (Al 157).length) (hn : j < 80) : (O2 L).2.2.2.2.2.1 (ms z f A Al) 0 157 (nI j) = some (nI ((Al 157).getD j 0)) := by rw [aL rfl rfl _ hn, ms_load (by omega) hj]
theorem A157 (v : Nat) (hj : (Al 157).length = j) (hn : j < 80) : (O2 L).2.2.2.2.2.2.1 (ms z f A Al) 0 157 (nI j) (nI v) = some (ms z f A (va_up Al 157 (Al 157 ++ [v]))) := by rw [aS rfl _ _ hn, ms_app (by omega) hj]
theorem U157 (v : Nat) (hj : j < (Al 157).length) (hn : j < 80) : (O2 L).2.2.2.2.2.2.1 (ms z f A Al) 0 157 (nI j) (nI v) = some (ms z f A (va_up Al 157 ((Al 157).set j v))) := by rw [aS rfl _ _ hn, ms_set (by omega) hj]
theorem L158 (hj : j < (Al 158).length) (hn : j < 1000) : (O2 L).2.2.2.2.2.1 (ms z f A Al) 0 158 (nI j) = some (nI ((Al 158).getD j 0)) := by rw [aL rfl rfl _ hn, ms_load (by omega) hj]
theorem A158 (v : Nat) (hj : (Al 158).length = j) (hn : j < 1000) : (O2 L).2.2.2.2.2.2.1 (ms z f A Al) 0 158 (nI j) (nI v) = some (ms z f A (va_up Al 158 (Al 158 ++ [v]))) := by rw [aS rfl _ _ hn, ms_app (by omega) hj]
theorem U158 (v : Nat) (hj : j < (Al 158).length) (hn : j < 1000) : (O2 L).2.2.2.2.2.2.1 (ms z f A Al) 0 158 (nI j) (nI v) = some (ms z f A (va_up Al 158 ((Al 158).set j v))) := by rw [aS rfl _ _ hn, ms_set (by omega) hj]
theorem L159 (hj : j < (Al 159).length) (hn : j < 200) : (O2 L).2.2.2.2.2.1 (ms z f A Al) 0 159 (nI j) = some (nI ((Al 159).getD j 0)) := by rw [aL rfl rfl _ hn, ms_load (by omega) hj]
theorem A159 (v : Nat) (hj : (Al 159).length = j) (hn : j < 200) : (O2 L).2.2.2.2.2.2.1 (ms z f A Al) 0 159 (nI j) (nI v) = some (ms z f A (va_up Al 159 (Al 159 ++ [v]))) := by rw [aS rfl _ _ hn, ms_app (by omega) hj]
theorem U159 (v : Nat) (hj : j < (Al 159).length) (hn : j < 200) : (O2 L).2.2.2.2.2.2.1 (ms z f A Al) 0 159 (nI j) (nI v) = some (ms z f A (va_up Al 159 ((Al 159).set j v))) := by rw [aS rfl _ _ hn, ms_set (by omega) hj]
theorem L160 (hj : j < (Al 160).length) (hn : j < 200) : (O2 L).2.2.2.2.2.1 (ms z f A Al) 0 160 (nI j) = some (nI ((Al 160).getD j 0)) := by rw [aL rfl rfl _ hn, ms_load (by omega) hj]
theorem A160 (v : Nat) (hj : (Al 160).length = j) (hn : j < 200) : (O2 L).2.2.2.2.2.2.1 (ms z f A Al) 0 160 (nI j) (nI v) = some (ms z f A (va_up Al 160 (Al 160 ++ [v]))) := by rw [aS rfl _ _ hn, ms_app (by omega) hj]
theorem U160 (v : Nat) (hj : j < (Al 160).length) (hn : j < 200) : (O2 L).2.2.2.2.2.2.1 (ms z f A Al) 0 160 (nI j) (nI v) = some (ms z f A (va_up Al 160 ((Al 160).set j v))) := by rw [aS rfl _ _ hn, ms_set (by omega) hj]
theorem L161 (hj : j < (Al 161).length) (hn : j < 200) : (O2 L).2.2.2.2.2.1 (ms z f A Al) 0 161 (nI j) = some (nI ((Al 161).getD j 0)) := by rw [aL rfl rfl _ hn, ms_load (by omega) hj]
theorem A161 (v : Nat) (hj : (Al 161).length = j) (hn : j < 200) : (O2 L).2.2.2.2.2.2.1 (ms z f A Al) 0 161 (nI j) (nI v) = some (ms z f A (va_up Al 161 (Al 161 ++ [v]))) := by rw [aS rfl _ _ hn, ms_app (by omega) hj]
theorem U161 (v : Nat) (hj : j < (Al 161).length) (hn : j < 200) : (O2 L).2.2.2.2.2.2.1 (ms z f A Al) 0 161 (nI j) (nI v) = some (ms z f A (va_up Al 161 ((Al 161).set j v))) := by rw [aS rfl _ _ hn, ms_set (by omega) hj]
theorem L162 (hj : j < (Al 162).length) (hn : j < 200) : (O2 L).2.2.2.2.2.1 (ms z f A Al) 1 162 (nI j) = some (nI ((Al 162).getD j 0)) := by rw [aL rfl rfl _ hn, ms_load (by omega) hj]
theorem A162 (v : Nat) (hj : (Al 162).length = j) (hn : j < 200) : (O2 L).2.2.2.2.2.2.1 (ms z f A Al) 1 162 (nI j) (nI v) = some (ms z f A (va_up Al 162 (Al 162 ++ [v]))) := by rw [aS rfl _ _ hn, ms_app (by omega) hj]
theorem U162 (v : Nat) (hj : j < (Al 162).length) (hn : j < 200) : (O2 L).2.2.2.2.2.2.1 (ms z f A Al) 1 162 (nI j) (nI v) = some (ms z f A (va_up Al 162 ((Al 162).set j v))) := by rw [aS rfl _ _ hn, ms_set (by omega) hj]
theorem L163 (hj : j < (Al 163).length) (hn : j < 200) : (O2 L).2.2.2.2.2.1 (ms z f A Al) 1 163 (nI j) = some (nI ((Al 163).getD j 0)) := by rw [aL rfl rfl _ hn, ms_load (by omega) hj]
theorem A163 (v : Nat) (hj : (Al 163).length = j) (hn : j < 200) : (O2 L).2.2.2.2.2.2.1 (ms z f A Al) 1 163 (nI j) (nI v) = some (ms z f A (va_up Al 163 (Al 163 ++ [v]))) := by rw [aS rfl _ _ hn, ms_app (by omega) hj]
theorem U163 (v : Nat) (hj : j < (Al 163).length) (hn : j < 200) : (O2 L).2.2.2.2.2.2.1 (ms z f A Al) 1 163 (nI j) (nI v) = some (ms z f A (va_up Al 163 ((Al 163).set j v))) := by rw [aS rfl _ _ hn, ms_set (by omega) hj]
theorem L164 (hj : j < (Al 164).length) (hn : j < 12) : (O2 L).2.2.2.2.2.1 (ms z f A Al) 1 164 (nI j) = some (nI ((Al 164).getD j 0)) := by rw [aL rfl rfl _ hn, ms_load (by omega) hj]
theorem A164 (v : Nat) (hj : (Al 164).length = j) (hn : j < 12) : (O2 L).2.2.2.2.2.2.1 (ms z f A Al) 1 164 (nI j) (nI v) = some (ms z f A (va_up Al 164 (Al 164 ++ [v]))) := by rw [aS rfl _ _ hn, ms_app (by omega) hj]
theorem U164 (v : Nat) (hj : j < (Al 164).length) (hn : j < 12) : (O2 L).2.2.2.2.2.2.1 (ms z f A Al) 1 164 (nI j) (nI v) = some (ms z f A (va_up Al 164 ((Al 164).set j v))) := by rw [aS rfl _ _ hn, ms_set (by omega) hj]
theorem L165 (hj : j < (Al 165).length) (hn : j < 12) : (O2 L).2.2.2.2.2.1 (ms z f A Al) 1 165 (nI j) = some (nI ((Al 165).getD j 0)) := by rw [aL rfl rfl _ hn, ms_load (by omega) hj]
theorem A165 (v : Nat) (hj : (Al 165).length = j) (hn : j < 12) : (O2 L).2.2.2.2.2.2.1 (ms z f A Al) 1 165 (nI j) (nI v) = some (ms z f A (va_up Al 165 (Al 165 ++ [v]))) := by rw [aS rfl _ _ hn, ms_app (by omega) hj]
theorem U165 (v : Nat) (hj : j < (Al 165).length) (hn : j < 12) : (O2 L).2.2.2.2.2.2.1 (ms z f A Al) 1 165 (nI j) (nI v) = some (ms z f A (va_up Al 165 ((Al 165).set j v))) := by rw [aS rfl _ _ hn, ms_set (by omega) hj]
theorem L166 (hj : j < (Al 166).length) (hn : j < 12) : (O2 L).2.2.2.2.2.1 (ms z f A Al) 0 166 (nI j) = some (nI ((Al 166).getD j 0)) := by rw [aL rfl rfl _ hn, ms_load (by omega) hj]
theorem A166 (v : Nat) (hj : (Al 166).length = j) (hn : j < 12) : (O2 L).2.2.2.2.2.2.1 (ms z f A Al) 0 166 (nI j) (nI v) = some (ms z f A (va_up Al 166 (Al 166 ++ [v]))) := by rw [aS rfl _ _ hn, ms_app (by omega) hj]
theorem U166 (v : Nat) (hj : j < (Al 166).length) (hn : j < 12) : (O2 L).2.2.2.2.2.2.1 (ms z f A Al) 0 166 (nI j) (nI v) = some (ms z f A (va_up Al 166 ((Al 166).set j v))) := by rw [aS rfl _ _ hn, ms_set (by omega) hj]
theorem L167 (hj : j < (Al 167).length) (hn : j < 3600) : (O2 L).2.2.2.2.2.1 (ms z f A Al) 1 167 (nI j) = some (nI ((Al 167).getD j 0)) := by rw [aL rfl rfl _ hn, ms_load (by omega) hj]
theorem A167 (v : Nat) (hj : (Al 167).length = j) (hn : j < 3600) : (O2 L).2.2.2.2.2.2.1 (ms z f A Al) 1 167 (nI j) (nI v) = some (ms z f A (va_up Al 167 (Al 167 ++ [v]))) := by rw [aS rfl _ _ hn, ms_app (by omega) hj]
theorem U167 (v : Nat) (hj : j < (Al 167).length) (hn : j < 3600) : (O2 L).2.2.2.2.2.2.1 (ms z f A Al) 1 167 (nI j) (nI v) = some (ms z f A (va_up Al 167 ((Al 167).set j v))) := by rw [aS rfl _ _ hn, ms_set (by omega) hj]
theorem L168 (hj : j < (Al 168).length) (hn : j < 300) : (O2 L).2.2.2.2.2.1 (ms z f A Al) 1 168 (nI j) = some (nI ((Al 168).getD j 0)) := by rw [aL rfl rfl _ hn, ms_load (by omega) hj]
theorem A168 (v : Nat) (hj : (Al 168).length = j) (hn : j < 300) : (O2 L).2.2.2.2.2.2.1 (ms z f A Al) 1 168 (nI j) (nI v) = some (ms z f A (va_up Al 168 (Al 168 ++ [v]))) := by rw [aS rfl _ _ hn, ms_app (by omega) hj]
theorem U168 (v : Nat) (hj : j < (Al 168).length) (hn : j < 300) : (O2 L).2.2.2.2.2.2.1 (ms z f A Al) 1 168 (nI j) (nI v) = some (ms z f A (va_up Al 168 ((Al 168).set j v))) := by rw [aS rfl _ _ hn, ms_set (by omega) hj]
theorem L169 (hj : j < (Al 169).length) (hn : j < 300) : (O2 L).2.2.2.2.2.1 (ms z f A Al) 1 169 (nI j) = some (nI ((Al 169).getD j 0)) := by rw [aL rfl rfl _ hn, ms_load (by omega) hj]
theorem A169 (v : Nat) (hj : (Al 169).length = j) (hn : j < 300) : (O2 L).2.2.2.2.2.2.1 (ms z f A Al) 1 169 (nI j) (nI v) = some (ms z f A (va_up Al 169 (Al 169 ++ [v]))) := by rw [aS rfl _ _ hn, ms_app (by omega) hj]
theorem U169 (v : Nat) (hj : j < (Al 169).length) (hn : j < 300) : (O2 L).2.2.2.2.2.2.1 (ms z f A Al) 1 169 (nI j) (nI v) = some (ms z f A (va_up Al 169 ((Al 169).set j v))) := by rw [aS rfl _ _ hn, ms_set (by omega) hj]
theorem L170 (hj : j < (Al 170).length) (hn : j < 300) : (O2 L).2.2.2.2.2.1 (ms z f A Al) 0 170 (nI j) = some (nI ((Al 170).getD j 0)) := by rw [aL rfl rfl _ hn, ms_load (by omega) hj]
theorem A170 (v : Nat) (hj : (Al 170).length = j) (hn : j < 300) : (O2 L).2.2.2.2.2.2.1 (ms z f A Al) 0 170 (nI j) (nI v) = some (ms z f A (va_up Al 170 (Al 170 ++ [v]))) := by rw [aS rfl _ _ hn, ms_app (by omega) hj]
theorem U170 (v : Nat) (hj : j < (Al 170).length) (hn : j < 300) : (O2 L).2.2.2.2.2.2.1 (ms z f A Al) 0 170 (nI j) (nI v) = some (ms z f A (va_up Al 170 ((Al 170).set j v))) := by rw [aS rfl _ _ hn, ms_set (by omega) hj]
theorem L171 (hj : j < (Al 171).length) (hn : j < 300) : (O2 L).2.2.2.2.2.1 (ms z f A Al) 0 171 (nI j) = some (nI ((Al 171).getD j 0)) := by rw [aL rfl rfl _ hn, ms_load (by omega) hj]
theorem A171 (v : Nat) (hj : (Al 171).length = j) (hn : j < 300) : (O2 L).2.2.2.2.2.2.1 (ms z f A Al) 0 171 (nI j) (nI v) = some (ms z f A (va_up Al 171 (Al 171 ++ [v]))) := by rw [aS rfl _ _ hn, ms_app (by omega) hj]
theorem U171 (v : Nat) (hj : j < (Al 171).length) (hn : j < 300) : (O2 L).2.2.2.2.2.2.1 (ms z f A Al) 0 171 (nI j) (nI v) = some (ms z f A (va_up Al 171 ((Al 171).set j v))) := by rw [aS rfl _ _ hn, ms_set (by omega) hj]
theorem L172 (hj : j < (Al 172).length) (hn : j < 6000) : (O2 L).2.2.2.2.2.1 (ms z f A Al) 0 172 (nI j) = some (nI ((Al 172).getD j 0)) := by rw [aL rfl rfl _ hn, ms_load (by omega) hj]
theorem A172 (v : Nat) (hj : (Al 172).length = j) (hn : j < 6000) : (O2 L).2.2.2.2.2.2.1 (ms z f A Al) 0 172 (nI j) (nI v) = some (ms z f A (va_up Al 172 (Al 172 ++ [v]))) := by rw [aS rfl _ _ hn, ms_app (by omega) hj]
theorem U172 (v : Nat) (hj : j < (Al 172).length) (hn : j < 6000) : (O2 L).2.2.2.2.2.2.1 (ms z f A Al) 0 172 (nI j) (nI v) = some (ms z f A (va_up Al 172 ((Al 172).set j v))) := by rw [aS rfl _ _ hn, ms_set (by omega) hj]
theorem L173 (hj : j < (Al 173).length) (hn : j < 9) : (O2 L).2.2.2.2.2.1 (ms z f A Al) 0 173 (nI j) = some (nI ((Al 173).getD j 0)) := by rw [aL rfl rfl _ hn, ms_load (by omega) hj]
theorem A173 (v : Nat) (hj : (Al 173).length = j) (hn : j < 9) : (O2 L).2.2.2.2.2.2.1 (ms z f A Al) 0 173 (nI j) (nI v) = some (ms z f A (va_up Al 173 (Al 173 ++ [v]))) := by rw [aS rfl _ _ hn, ms_app (by omega) hj]
theorem U173 (v : Nat) (hj : j < (Al 173).length) (hn : j < 9) : (O2 L).2.2.2.2.2.2.1 (ms z f A Al) 0 173 (nI j) (nI v) = some (ms z f A (va_up Al 173 ((Al 173).set j v))) := by rw [aS rfl _ _ hn, ms_set (by omega) hj]
theorem L174 (hj : j < (Al 174).length) (hn : j < 9) : (O2 L).2.2.2.2.2.1 (ms z f A Al) 0 174 (nI j) = some (nI ((Al 174).getD j 0)) := by rw [aL rfl rfl _ hn, ms_load (by omega) hj]
theorem A174 (v : Nat) (hj : (Al 174).length = j) (hn : j < 9) : (O2 L).2.2.2.2.2.2.1 (ms z f A Al) 0 174 (nI j) (nI v) = some (ms z f A (va_up Al 174 (Al 174 ++ [v]))) := by rw [aS rfl _ _ hn, ms_app (by omega) hj]
theorem U174 (v : Nat) (hj : j < (Al 174).length) (hn : j < 9) : (O2 L).2.2.2.2.2.2.1 (ms z f A Al) 0 174 (nI j) (nI v) = some (ms z f A (va_up Al 174 ((Al 174).set j v))) := by rw [aS rfl _ _ hn, ms_set (by omega) hj]
theorem L175 (hj : j < (Al 175).length) (hn : j < 12) : (O2 L).2.2.2.2.2.1 (ms z f A Al) 0 175 (nI j) = some (nI ((Al 175).getD j 0)) := by rw [aL rfl rfl _ hn, ms_load (by omega) hj]
theorem A175 (v : Nat) (hj : (Al 175).length = j) (hn : j < 12) : (O2 L).2.2.2.2.2.2.1 (ms z f A Al) 0 175 (nI j) (nI v) = some (ms z f A (va_up Al 175 (Al 175 ++ [v]))) := by rw [aS rfl _ _ hn, ms_app (by omega) hj]
theorem U175 (v : Nat) (hj : j < (Al 175).length) (hn : j < 12) : (O2 L).2.2.2.2.2.2.1 (ms z f A Al) 0 175 (nI j) (nI v) = some (ms z f A (va_up Al 175 ((Al 175).set j v))) := by rw [aS rfl _ _ hn, ms_set (by omega) hj]
theorem L176 (hj : j < (Al 176).length) (hn : j < 12) : (O2 L).2.2.2.2.2.1 (ms z f A Al) 0 176 (nI j) = some (nI ((Al 176).getD j 0)) := by rw [aL rfl rfl _ hn, ms_load (by omega) hj]
theorem A176 (v : Nat) (hj : (Al 176).length = j) (hn : j < 12) : (O2 L).2.2.2.2.2.2.1 (ms z f A Al) 0 176 (nI j) (nI v) = some (ms z f A (va_up Al 176 (Al 176 ++ [v]))) := by rw [aS rfl _ _ hn, ms_app (by omega) hj]
theorem U176 (v : Nat) (hj : j < (Al 176).length) (hn : j < 12) : (O2 L).2.2.2.2.2.2.1 (ms z f A Al) 0 176 (nI j) (nI v) = some (ms z f A (va_up Al 176 ((Al 176).set j v))) := by rw [aS rfl _ _ hn, ms_set (by omega) hj]
theorem L177 (hj : j < (Al 177).length) (hn : j < 12) : (O2 L).2.2.2.2.2.1 (ms z f A Al) 0 177 (nI j) = some (nI ((Al 177).getD j 0)) := by rw [aL rfl rfl _ hn, ms_load (by omega) hj]
theorem A177 (v : Nat) (hj : (Al 177).length = j) (hn : j < 12) : (O2 L).2.2.2.2.2.2.1 (ms z f A Al) 0 177 (nI j) (nI v) = some (ms z f A (va_up Al 177 (Al 177 ++ [v]))) := by rw [aS rfl _ _ hn, ms_app (by omega) hj]
theorem U177 (v : Nat) (hj : j < (Al 177).length) (hn : j < 12) : (O2 L).2.2.2.2.2.2.1 (ms z f A Al) 0 177 (nI j) (nI v) = some (ms z f A (va_up Al 177 ((Al 177).set j v))) := by rw [aS rfl _ _ hn, ms_set (by omega) hj]
theorem L178 (hj : j < (Al 178).length) (hn : j < 80) : (O2 L).2.2.2.2.2.1 (ms z f A Al) 0 178 (nI j) = some (nI ((Al 178).getD j 0)) := by rw [aL rfl rfl _ hn, ms_load (by omega) hj]
theorem A178 (v : Nat) (hj : (Al 178).length = j) (hn : j < 80) : (O2 L).2.2.2.2.2.2.1 (ms z f A Al) 0 178 (nI j) (nI v) = some (ms z f A (va_up Al 178 (Al 178 ++ [v]))) := by rw [aS rfl _ _ hn, ms_app (by omega) hj]
theorem U178 (v : Nat) (hj : j < (Al 178).length) (hn : j < 80) : (O2 L).2.2.2.2.2.2.1 (ms z f A Al) 0 178 (nI j) (nI v) = some (ms z f A (va_up Al 178 ((Al 178).set j v))) := by rw [aS rfl _ _ hn, ms_set (by omega) hj]
theorem L179 (hj : j < (Al 179).length) (hn : j < 80) : (O2 L).2.2.2.2.2.1 (ms z f A Al) 0 179 (nI j) = some (nI ((Al 179).getD j 0)) := by rw [aL rfl rfl _ hn, ms_load (by omega) hj]
theorem A179 (v : Nat) (hj : (Al 179).length = j) (hn : j < 80) : (O2 L).2.2.2.2.2.2.1 (ms z f A Al) 0 179 (nI j) (nI v) = some (ms z f A (va_up Al 179 (Al 179 ++ [v]))) := by rw [aS rfl _ _ hn, ms_app (by omega) hj]
theorem U179 (v : Nat) (hj : j < (Al 179).length) (hn : j < 80) : (O2 L).2.2.2.2.2.2.1 (ms z f A Al) 0 179 (nI j) (nI v) = some (ms z f A (va_up Al 179 ((Al 179).set j v))) := by rw [aS rfl _ _ hn, ms_set (by omega) hj]
theorem L180 (hj : j < (Al 180).length) (hn : j < 80) : (O2 L).2.2.2.2.2.1 (ms z f A Al) 0 180 (nI j) = some (nI ((Al 180).getD j 0)) := by rw [aL rfl rfl _ hn, ms_load (by omega) hj]
theorem A180 (v : Nat) (hj : (Al 180).length = j) (hn : j < 80) : (O2 L).2.2.2.2.2.2.1 (ms z f A Al) 0 180 (nI j) (nI v) = some (ms z f A (va_up Al 180 (Al 180 ++ [v]))) := by rw [aS rfl _ _ hn, ms_app (by omega) hj]
theorem U180 (v : Nat) (hj : j < (Al 180).length) (hn : j < 80) : (O2 L).2.2.2.2.2.2.1 (ms z f A Al) 0 180 (nI j) (nI v) = some (ms z f A (va_up Al 180 ((Al 180).set j v))) := by rw [aS rfl _ _ hn, ms_set (by omega) hj]
theorem L181 (hj : j < (Al 181).length) (hn : j < 200) : (O2 L).2.2.2.2.2.1 (ms z f A Al) 0 181 (nI j) = some (nI ((Al 181).getD j 0)) := by rw [aL rfl rfl _ hn, ms_load (by omega) hj]
theorem A181 (v : Nat) (hj : (Al 181).length = j) (hn : j < 200) : (O2 L).2.2.2.2.2.2.1 (ms z f A Al) 0 181 (nI j) (nI v) = some (ms z f A (va_up Al 181 (Al 181 ++ [v]))) := by rw [aS rfl _ _ hn, ms_app (by omega) hj]
theorem U181 (v : Nat) (hj : j < (Al 181).length) (hn : j < 200) : (O2 L).2.2.2.2.2.2.1 (ms z f A Al) 0 181 (nI j) (nI v) = some (ms z f A (va_up Al 181 ((Al 181).set j v))) := by rw [aS rfl _ _ hn, ms_set (by omega) hj]
theorem L182 (hj : j < (Al 182).length) (hn : j < 200) : (O2 L).2.2.2.2.2.1 (ms z f A Al) 0 182 (nI j) = some (nI ((Al 182).getD j 0)) := by rw [aL rfl rfl _ hn, ms_load (by omega) hj]
theorem A182 (v : Nat) (hj : (Al 182).length = j) (hn : j < 200) : (O2 L).2.2.2.2.2.2.1 (ms z f A Al) 0 182 (nI j) (nI v) = some (ms z f A (va_up Al 182 (Al 182 ++ [v]))) := by rw [aS rfl _ _ hn, ms_app (by omega) hj]
theorem U182 (v : Nat) (hj : j < (Al 182).length) (hn : j < 200) : (O2 L).2.2.2.2.2.2.1 (ms z f A Al) 0 182 (nI j) (nI v) = some (ms z f A (va_up Al 182 ((Al 182).set j v))) := by rw [aS rfl _ _ hn, ms_set (by omega) hj]
theorem L183 (hj : j < (Al 183).length) (hn : j < 200) : (O2 L).2.2.2.2.2.1 (ms z f A Al) 0 183 (nI j) = some (nI ((Al 183).getD j 0)) := by rw [aL rfl rfl _ hn, ms_load (by omega) hj]
theorem A183 (v : Nat) (hj : (Al 183).length = j) (hn : j < 200) : (O2 L).2.2.2.2.2.2.1 (ms z f A Al) 0 183 (nI j) (nI v) = some (ms z f A (va_up Al 183 (Al 183 ++ [v]))) := by rw [aS rfl _ _ hn, ms_app (by omega) hj]
theorem U183 (v : Nat) (hj : j < (Al 183).length) (hn : j < 200) : (O2 L).2.2.2.2.2.2.1 (ms z f A Al) 0 183 (nI j) (nI v) = some (ms z f A (va_up Al 183 ((Al 183).set j v))) := by rw [aS rfl _ _ hn, ms_set (by omega) hj]
theorem L184 (hj : j < (Al 184).length) (hn : j < 200) : (O2 L).2.2.2.2.2.1 (ms z f A Al) 0 184 (nI j) = some (nI ((Al 184).getD j 0)) := by rw [aL rfl rfl _ hn, ms_load (by omega) hj]
theorem A184 (v : Nat) (hj : (Al 184).length = j) (hn : j < 200) : (O2 L).2.2.2.2.2.2.1 (ms z f A Al) 0 184 (nI j) (nI v) = some (ms z f A (va_up Al 184 (Al 184 ++ [v]))) := by rw [aS rfl _ _ hn, ms_app (by omega) hj]
theorem U184 (v : Nat) (hj : j < (Al 184).length) (hn : j < 200) : (O2 L).2.2.2.2.2.2.1 (ms z f A Al) 0 184 (nI j) (nI v) = some (ms z f A (va_up Al 184 ((Al 184).set j v))) := by rw [aS rfl _ _ hn, ms_set (by omega) hj]
theorem L185 (hj : j < (Al 185).length) (hn : j < 200) : (O2 L).2.2.2.2.2.1 (ms z f A Al) 0 185 (nI j) = some (nI ((Al 185).getD j 0)) := by rw [aL rfl rfl _ hn, ms_load (by omega) hj]
theorem A185 (v : Nat) (hj : (Al 185).length = j) (hn : j < 200) : (O2 L).2.2.2.2.2.2.1 (ms z f A Al) 0 185 (nI j) (nI v) = some (ms z f A (va_up Al 185 (Al 185 ++ [v]))) := by rw [aS rfl _ _ hn, ms_app (by omega) hj]
theorem U185 (v : Nat) (hj : j < (Al 185).length) (hn : j < 200) : (O2 L).2.2.2.2.2.2.1 (ms z f A Al) 0 185 (nI j) (nI v) = some (ms z f A (va_up Al 185 ((Al 185).set j v))) := by rw [aS rfl _ _ hn, ms_set (by omega) hj]
theorem L186 (hj : j < (Al 186).length) (hn : j < 6) : (O2 L).2.2.2.2.2.1 (ms z f A Al) 0 186 (nI j) = some (nI ((Al 186).getD j 0)) := by rw [aL rfl rfl _ hn, ms_load (by omega) hj]
theorem A186 (v : Nat) (hj : (Al 186).length = j) (hn : j < 6) : (O2 L).2.2.2.2.2.2.1 (ms z f A Al) 0 186 (nI j) (nI v) = some (ms z f A (va_up Al 186 (Al 186 ++ [v]))) := by rw [aS rfl _ _ hn, ms_app (by omega) hj]
theorem U186 (v : Nat) (hj : j < (Al 186).length) (hn : j < 6) : (O2 L).2.2.2.2.2.2.1 (ms z f A Al) 0 186 (nI j) (nI v) = some (ms z f A (va_up Al 186 ((Al 186).set j v))) := by rw [aS rfl _ _ hn, ms_set (by omega) hj]
theorem L187 (hj : j < (Al 187).length) (hn : j < 6) : (O2 L).2.2.2.2.2.1 (ms z f A Al) 0 187 (nI j) = some (nI ((Al 187).getD j 0)) := by rw [aL rfl rfl _ hn, ms_load (by omega) hj]
theorem A187 (v : Nat) (hj : (Al 187).length = j) (hn : j < 6) : (O2 L).2.2.2.2.2.2.1 (ms z f A Al) 0 187 (nI j) (nI v) = some (ms z f A (va_up Al 187 (Al 187 ++ [v]))) := by rw [aS rfl _ _ hn, ms_app (by omega) hj]
theorem U187 (v : Nat) (hj : j < (Al 187).length) (hn : j < 6) : (O2 L).2.2.2.2.2.2.1 (ms z f A Al) 0 187 (nI j) (nI v) = some (ms z f A (va_up Al 187 ((Al 187).set j v))) := by rw [aS rfl _ _ hn, ms_set (by omega) hj]
theorem L188 (hj : j < (Al 188).length) (hn : j < 301) : (O2 L).2.2.2.2.2.1 (ms z f A Al) 1 188 (nI j) = some (nI ((Al 188).getD j 0)) := by rw [aL rfl rfl _ hn, ms_load (by omega) hj]
theorem A188 (v : Nat) (hj : (Al 188).length = j) (hn : j < 301) : (O2 L).2.2.2.2.2.2.1 (ms z f A Al) 1 188 (nI j) (nI v) = some (ms z f A (va_up Al 188 (Al 188 ++ [v]))) := by rw [aS rfl _ _ hn, ms_app (by omega) hj]
theorem U188 (v : Nat) (hj : j < (Al 188).length) (hn : j < 301) : (O2 L).2.2.2.2.2.2.1 (ms z f A Al) 1 188 (nI j) (nI v) = some (ms z f A (va_up Al 188 ((Al 188).set j v))) := by rw [aS rfl _ _ hn, ms_set (by omega) hj]
theorem L189 (hj : j < (Al 189).length) (hn : j < 9) : (O2 L).2.2.2.2.2.1 (ms z f A Al) 0 189 (nI j) = some (nI ((Al 189).getD j 0)) := by rw [aL rfl rfl _ hn, ms_load (by omega) hj]
theorem A189 (v : Nat) (hj : (Al 189).length = j) (hn : j < 9) : (O2 L).2.2.2.2.2.2.1 (ms z f A Al) 0 189 (nI j) (nI v) = some (ms z f A (va_up Al 189 (Al 189 ++ [v]))) := by rw [aS rfl _ _ hn, ms_app (by omega) hj]
theorem U189 (v : Nat) (hj : j < (Al 189).length) (hn : j < 9) : (O2 L).2.2.2.2.2.2.1 (ms z f A Al) 0 189 (nI j) (nI v) = some (ms z f A (va_up Al 189 ((Al 189).set j v))) := by rw [aS rfl _ _ hn, ms_set (by omega) hj]
theorem j136_0 (z : zS) : (O2 L).2.1 z 136 8 0 = some 137 := (J136_0 z).trans rfl
theorem j136_2 (z : zS) : (O2 L).2.1 z 136 8 2 = some 138 := (J136_2 z).trans rfl
theorem j136_5 (z : zS) : (O2 L).2.1 z 136 8 5 = some 139 := (J136_5 z).trans rfl
theorem j136_6 (z : zS) : (O2 L).2.1 z 136 8 6 = some 140 := (J136_6 z).trans rfl
theorem j136_7 (z : zS) : (O2 L).2.1 z 136 8 7 = some 141 := (J136_7 z).trans rfl
theorem j136_8 (z : zS) : (O2 L).2.1 z 136 8 8 = some 142 := (J136_8 z).trans rfl
theorem j136_9 (z : zS) : (O2 L).2.1 z 136 8 9 = some 143 := (J136_9 z).trans rfl
theorem j136_11 (z : zS) : (O2 L).2.1 z 136 8 11 = some 144 := (J136_11 z).trans rfl
theorem j136_12 (z : zS) : (O2 L).2.1 z 136 8 12 = some 145 := (J136_12 z).trans rfl
theorem j136_13 (z : zS) : (O2 L).2.1 z 136 8 13 = some 146 := (J136_13 z).trans rfl
theorem j136_15 (z : zS) : (O2 L).2.1 z 136 8 15 = some 147 := (J136_15 z).trans rfl
theorem j136_16 (z : zS) : (O2 L).2.1 z 136 8 16 = some 148 := (J136_16 z).trans rfl
theorem j136_17 (z : zS) : (O2 L).2.1 z 136 8 17 = some 149 := (J136_17 z).trans rfl
theorem j136_18 (z : zS) : (O2 L).2.1 z 136 8 18 = some 150 := (J136_18 z).trans rfl
theorem j136_20 (z : zS) : (O2 L).2.1 z 136 8 20 = some 151 := (J136_20 z).trans rfl
theorem j136_22 (z : zS) : (O2 L).2.1 z 136 8 22 = some 152 := (J136_22 z).trans rfl
theorem j136_23 (z : zS) : (O2 L).2.1 z 136 8 23 = some 153 := (J136_23 z).trans rfl
theorem j136_24 (z : zS) : (O2 L).2.1 z 136 8 24 = some 154 := (J136_24 z).trans rfl
theorem j136_26 (z : zS) : (O2 L).2.1 z 136 8 26 = some 155 := (J136_26 z).trans rfl
theorem j136_27 (z : zS) : (O2 L).2.1 z 136 8 27 = some 156 := (J136_27 z).trans rfl
theorem j136_28 (z : zS) : (O2 L).2.1 z 136 8 28 = some 157 := (J136_28 z).trans rfl
theorem j136_29 (z : zS) : (O2 L).2.1 z 136 8 29 = some 158 := (J136_29 z).trans rfl
theorem j136_31 (z : zS) : (O2 L).2.1 z 136 8 31 = some 159 := (J136_31 z).trans rfl
theorem j136_32 (z : zS) : (O2 L).2.1 z 136 8 32 = some 160 := (J136_32 z).trans rfl
theorem j136_33 (z : zS) : (O2 L).2.1 z 136 8 33 = some 161 := (J136_33 z).trans rfl
theorem j136_34 (z : zS) : (O2 L).2.1 z 136 8 34 = some 162 := (J136_34 z).trans rfl
theorem j136_35 (z : zS) : (O2 L).2.1 z 136 8 35 = some 163 := (J136_35 z).trans rfl
theorem j136_37 (z : zS) : (O2 L).2.1 z 136 8 37 = some 164 := (J136_37 z).trans rfl
theorem j136_38 (z : zS) : (O2 L).2.1 z 136 8 38 = some 165 := (J136_38 z).trans rfl
theorem j136_39 (z : zS) : (O2 L).2.1 z 136 8 39 = some 166 := (J136_39 z).trans rfl
theorem j136_40 (z : zS) : (O2 L).2.1 z 136 8 40 = some 167 := (J136_40 z).trans rfl
theorem j136_41 (z : zS) : (O2 L).2.1 z 136 8 41 = some 168 := (J136_41 z).trans rfl
theorem j136_42 (z : zS) : (O2 L).2.1 z 136 8 42 = some 169 := (J136_42 z).trans rfl
theorem j136_44 (z : zS) : (O2 L).2.1 z 136 8 44 = some 170 := (J136_44 z).trans rfl
theorem j136_45 (z : zS) : (O2 L).2.1 z 136 8 45 = some 171 := (J136_45 z).trans rfl
theorem j136_46 (z : zS) : (O2 L).2.1 z 136 8 46 = some 172 := (J136_46 z).trans rfl
theorem j136_49 (z : zS) : (O2 L).2.1 z 136 8 49 = some 173 := (J136_49 z).trans rfl
theorem j136_50 (z : zS) : (O2 L).2.1 z 136 8 50 = some 174 := (J136_50 z).trans rfl
theorem j136_52 (z : zS) : (O2 L).2.1 z 136 8 52 = some 175 := (J136_52 z).trans rfl
theorem j136_53 (z : zS) : (O2 L).2.1 z 136 8 53 = some 176 := (J136_53 z).trans rfl
theorem j136_54 (z : zS) : (O2 L).2.1 z 136 8 54 = some 177 := (J136_54 z).trans rfl
theorem j136_56 (z : zS) : (O2 L).2.1 z 136 8 56 = some 178 := (J136_56 z).trans rfl
theorem j136_57 (z : zS) : (O2 L).2.1 z 136 8 57 = some 179 := (J136_57 z).trans rfl
theorem j136_58 (z : zS) : (O2 L).2.1 z 136 8 58 = some 180 := (J136_58 z).trans rfl
theorem j136_60 (z : zS) : (O2 L).2.1 z 136 8 60 = some 181 := (J136_60 z).trans rfl
theorem j136_61 (z : zS) : (O2 L).2.1 z 136 8 61 = some 182 := (J136_61 z).trans rfl
theorem j136_62 (z : zS) : (O2 L).2.1 z 136 8 62 = some 183 := (J136_62 z).trans rfl
theorem j136_63 (z : zS) : (O2 L).2.1 z 136 8 63 = some 184 := (J136_63 z).trans rfl
theorem j136_65 (z : zS) : (O2 L).2.1 z 136 8 65 = some 185 := (J136_65 z).trans rfl
theorem j136_70 (z : zS) : (O2 L).2.1 z 136 8 70 = some 186 := (J136_70 z).trans rfl
theorem j136_71 (z : zS) : (O2 L).2.1 z 136 8 71 = some 187 := (J136_71 z).trans rfl
theorem j136_72 (z : zS) : (O2 L).2.1 z 136 8 72 = some 188 := (J136_72 z).trans rfl
theorem j136_73 (z : zS) : (O2 L).2.1 z 136 8 73 = some 189 := (J136_73 z).trans rfl
variable {β : Type}
theorem M1b (g : Int32 → Option β) : ((O2 L).1 (ms z f A Al) 136 8 1).bind g = g (f 1) := by rw [M1r]; rfl
theorem M1q (x : Int32) (g : zS → Option β) : ((O2 L).2.2.1 (ms z f A Al) 136 8 1 (.int x)).bind g = g (ms z (va_up f 1 x) A Al) := by rw [M1p]; rfl
theorem M3b (g : Int32 → Option β) : ((O2 L).1 (ms z f A Al) 136 8 3).bind g = g (f 3) := by rw [M3r]; rfl
theorem M3q (x : Int32) (g : zS → Option β) : ((O2 L).2.2.1 (ms z f A Al) 136 8 3 (.int x)).bind g = g (ms z (va_up f 3 x) A Al) := by rw [M3p]; rfl
theorem M4b (g : Int32 → Option β) : ((O2 L).1 (ms z f A Al) 136 8 4).bind g = g (f 4) := by rw [M4r]; rfl
theorem M4q (x : Int32) (g : zS → Option β) : ((O2 L).2.2.1 (ms z f A Al) 136 8 4 (.int x)).bind g = g (ms z (va_up f 4 x) A Al) := by rw [M4p]; rfl
theorem M10b (g : Int32 → Option β) : ((O2 L).1 (ms z f A Al) 136 8 10).bind g = g (f 10) := by rw [M10r]; rfl
theorem M10q (x : Int32) (g : zS → Option β) : ((O2 L).2.2.1 (ms z f A Al) 136 8 10 (.int x)).bind g = g (ms z (va_up f 10 x) A Al) := by rw [M10p]; rfl
theorem M14b (g : Int32 → Option β) : ((O2 L).1 (ms z f A Al) 136 8 14).bind g = g (f 14) := by rw [M14r]; rfl
theorem M14q (x : Int32) (g : zS → Option β) : ((O2 L).2.2.1 (ms z f A Al) 136 8 14 (.int x)).bind g = g (ms z (va_up f 14 x) A Al) := by rw [M14p]; rfl
theorem M19b (g : Int32 → Option β) : ((O2 L).1 (ms z f A Al) 136 8 19).bind g = g (f 19) := by rw [M19r]; rfl
theorem M19q (x : Int32) (g : zS → Option β) : ((O2 L).2.2.1 (ms z f A Al) 136 8 19 (.int x)).bind g = g (ms z (va_up f 19 x) A Al) := by rw [M19p]; rfl
theorem M21b (g : Int32 → Option β) : ((O2 L).1 (ms z f A Al) 136 8 21).bind g = g (f 21) := by rw [M21r]; rfl
theorem M21q (x : Int32) (g : zS → Option β) : ((O2 L).2.2.1 (ms z f A Al) 136 8 21 (.int x)).bind g = g (ms z (va_up f 21 x) A Al) := by rw [M21p]; rfl
theorem M25b (g : Int32 → Option β) : ((O2 L).1 (ms z f A Al) 136 8 25).bind g = g (f 25) := by rw [M25r]; rfl
theorem M25q (x : Int32) (g : zS → Option β) : ((O2 L).2.2.1 (ms z f A Al) 136 8 25 (.int x)).bind g = g (ms z (va_up f 25 x) A Al) := by rw [M25p]; rfl
theorem M30b (g : Int32 → Option β) : ((O2 L).1 (ms z f A Al) 136 8 30).bind g = g (f 30) := by rw [M30r]; rfl
theorem M30q (x : Int32) (g : zS → Option β) : ((O2 L).2.2.1 (ms z f A Al) 136 8 30 (.int x)).bind g = g (ms z (va_up f 30 x) A Al) := by rw [M30p]; rfl
theorem M36b (g : Int32 → Option β) : ((O2 L).1 (ms z f A Al) 136 8 36).bind g = g (f 36) := by rw [M36r]; rfl
theorem M36q (x : Int32) (g : zS → Option β) : ((O2 L).2.2.1 (ms z f A Al) 136 8 36 (.int x)).bind g = g (ms z (va_up f 36 x) A Al) := by rw [M36p]; rfl
theorem M43b (g : Int32 → Option β) : ((O2 L).1 (ms z f A Al) 136 8 43).bind g = g (f 43) := by rw [M43r]; rfl
theorem M43q (x : Int32) (g : zS → Option β) : ((O2 L).2.2.1 (ms z f A Al) 136 8 43 (.int x)).bind g = g (ms z (va_up f 43 x) A Al) := by rw [M43p]; rfl
theorem M47b (g : Int32 → Option β) : ((O2 L).1 (ms z f A Al) 136 8 47).bind g = g (f 47) := by rw [M47r]; rfl
theorem M47q (x : Int32) (g : zS → Option β) : ((O2 L).2.2.1 (ms z f A Al) 136 8 47 (.int x)).bind g = g (ms z (va_up f 47 x) A Al) := by rw [M47p]; rfl
theorem M48b (g : Int32 → Option β) : ((O2 L).1 (ms z f A Al) 136 8 48).bind g = g (f 48) := by rw [M48r]; rfl
theorem M48q (x : Int32) (g : zS → Option β) : ((O2 L).2.2.1 (ms z f A Al) 136 8 48 (.int x)).bind g = g (ms z (va_up f 48 x) A Al) := by rw [M48p]; rfl
theorem M51b (g : Int32 → Option β) : ((O2 L).1 (ms z f A Al) 136 8 51).bind g = g (f 51) := by rw [M51r]; rfl
theorem M51q (x : Int32) (g : zS → Option β) : ((O2 L).2.2.1 (ms z f A Al) 136 8 51 (.int x)).bind g = g (ms z (va_up f 51 x) A Al) := by rw [M51p]; rfl
theorem M55b (g : Int32 → Option β) : ((O2 L).1 (ms z f A Al) 136 8 55).bind g = g (f 55) := by rw [M55r]; rfl
theorem M55q (x : Int32) (g : zS → Option β) : ((O2 L).2.2.1 (ms z f A Al) 136 8 55 (.int x)).bind g = g (ms z (va_up f 55 x) A Al) := by rw [M55p]; rfl
theorem M59b (g : Int32 → Option β) : ((O2 L).1 (ms z f A Al) 136 8 59).bind g = g (f 59) := by rw [M59r]; rfl
theorem M59q (x : Int32) (g : zS → Option β) : ((O2 L).2.2.1 (ms z f A Al) 136 8 59 (.int x)).bind g = g (ms z (va_up f 59 x) A Al) := by rw [M59p]; rfl
theorem M64b (g : Int32 → Option β) : ((O2 L).1 (ms z f A Al) 136 8 64).bind g = g (f 64) := by rw [M64r]; rfl
theorem M64q (x : Int32) (g : zS → Option β) : ((O2 L).2.2.1 (ms z f A Al) 136 8 64 (.int x)).bind g = g (ms z (va_up f 64 x) A Al) := by rw [M64p]; rfl
theorem M66b (g : Int32 → Option β) : ((O2 L).1 (ms z f A Al) 136 8 66).bind g = g (f 66) := by rw [M66r]; rfl
theorem M66q (x : Int32) (g : zS → Option β) : ((O2 L).2.2.1 (ms z f A Al) 136 8 66 (.int x)).bind g = g (ms z (va_up f 66 x) A Al) := by rw [M66p]; rfl
theorem M67b (g : Int32 → Option β) : ((O2 L).1 (ms z f A Al) 136 8 67).bind g = g (f 67) := by rw [M67r]; rfl
theorem M67q (x : Int32) (g : zS → Option β) : ((O2 L).2.2.1 (ms z f A Al) 136 8 67 (.int x)).bind g = g (ms z (va_up f 67 x) A Al) := by rw [M67p]; rfl
theorem M68b (g : Int32 → Option β) : ((O2 L).1 (ms z f A Al) 136 8 68).bind g = g (f 68) := by rw [M68r]; rfl
theorem M68q (x : Int32) (g : zS → Option β) : ((O2 L).2.2.1 (ms z f A Al) 136 8 68 (.int x)).bind g = g (ms z (va_up f 68 x) A Al) := by rw [M68p]; rfl
theorem M69b (g : Int32 → Option β) : ((O2 L).1 (ms z f A Al) 136 8 69).bind g = g (f 69) := by rw [M69r]; rfl
theorem M69q (x : Int32) (g : zS → Option β) : ((O2 L).2.2.1 (ms z f A Al) 136 8 69 (.int x)).bind g = g (ms z (va_up f 69 x) A Al) := by rw [M69p]; rfl
theorem Lb137 (g : Int32 → Option β) (hj : j < (Al 137).length) (hn : j < 1000) : ((O2 L).2.2.2.2.2.1 (ms z f A Al) 0 137 (nI j)).bind g = g (nI ((Al 137).getD j 0)) := by rw [L137 hj hn]; rfl
theorem Ab137 (v : Nat) (g : zS → Option β) (hj : (Al 137).length = j) (hn : j < 1000) : ((O2 L).2.2.2.2.2.2.1 (ms z f A Al) 0 137 (nI j) (nI v)).bind g = g (ms z f A (va_up Al 137 (Al 137 ++ [v]))) := by rw [A137 v hj hn]; rfl
theorem Ub137 (v : Nat) (g : zS → Option β) (hj : j < (Al 137).length) (hn : j < 1000) : ((O2 L).2.2.2.2.2.2.1 (ms z f A Al) 0 137 (nI j) (nI v)).bind g = g (ms z f A (va_up Al 137 ((Al 137).set j v))) := by rw [U137 v hj hn]; rfl
theorem Lb138 (g : Int32 → Option β) (hj : j < (Al 138).length) (hn : j < 1000) : ((O2 L).2.2.2.2.2.1 (ms z f A Al) 0 138 (nI j)).bind g = g (nI ((Al 138).getD j 0)) := by rw [L138 hj hn]; rfl
theorem Ab138 (v : Nat) (g : zS → Option β) (hj : (Al 138).length = j) (hn : j < 1000) : ((O2 L).2.2.2.2.2.2.1 (ms z f A Al) 0 138 (nI j) (nI v)).bind g = g (ms z f A (va_up Al 138 (Al 138 ++ [v]))) := by rw [A138 v hj hn]; rfl
theorem Ub138 (v : Nat) (g : zS → Option β) (hj : j < (Al 138).length) (hn : j < 1000) : ((O2 L).2.2.2.2.2.2.1 (ms z f A Al) 0 138 (nI j) (nI v)).bind g = g (ms z f A (va_up Al 138 ((Al 138).set j v))) := by rw [U138 v hj hn]; rfl
theorem Lb139 (g : Int32 → Option β) (hj : j < (Al 139).length) (hn : j < 1000) : ((O2 L).2.2.2.2.2.1 (ms z f A Al) 0 139 (nI j)).bind g = g (nI ((Al 139).getD j 0)) := by rw [L139 hj hn]; rfl
theorem Ab139 (v : Nat) (g : zS → Option β) (hj : (Al 139).length = j) (hn : j < 1000) : ((O2 L).2.2.2.2.2.2.1 (ms z f A Al) 0 139 (nI j) (nI v)).bind g = g (ms z f A (va_up Al 139 (Al 139 ++ [v]))) := by rw [A139 v hj hn]; rfl
theorem Ub139 (v : Nat) (g : zS → Option β) (hj : j < (Al 139).length) (hn : j < 1000) : ((O2 L).2.2.2.2.2.2.1 (ms z f A Al) 0 139 (nI j) (nI v)).bind g = g (ms z f A (va_up Al 139 ((Al 139).set j v))) := by rw [U139 v hj hn]; rfl
theorem Lb140 (g : Int32 → Option β) (hj : j < (Al 140).length) (hn : j < 1000) : ((O2 L).2.2.2.2.2.1 (ms z f A Al) 0 140 (nI j)).bind g = g (nI ((Al 140).getD j 0)) := by rw [L140 hj hn]; rfl
theorem Ab140 (v : Nat) (g : zS → Option β) (hj : (Al 140).length = j) (hn : j < 1000) : ((O2 L).2.2.2.2.2.2.1 (ms z f A Al) 0 140 (nI j) (nI v)).bind g = g (ms z f A (va_up Al 140 (Al 140 ++ [v]))) := by rw [A140 v hj hn]; rfl
theorem Ub140 (v : Nat) (g : zS → Option β) (hj : j < (Al 140).length) (hn : j < 1000) : ((O2 L).2.2.2.2.2.2.1 (ms z f A Al) 0 140 (nI j) (nI v)).bind g = g (ms z f A (va_up Al 140 ((Al 140).set j v))) := by rw [U140 v hj hn]; rfl
theorem Lb141 (g : Int32 → Option β) (hj : j < (Al 141).length) (hn : j < 1000) : ((O2 L).2.2.2.2.2.1 (ms z f A Al) 0 141 (nI j)).bind g = g (nI ((Al 141).getD j 0)) := by rw [L141 hj hn]; rfl
theorem Ab141 (v : Nat) (g : zS → Option β) (hj : (Al 141).length = j) (hn : j < 1000) : ((O2 L).2.2.2.2.2.2.1 (ms z f A Al) 0 141 (nI j) (nI v)).bind g = g (ms z f A (va_up Al 141 (Al 141 ++ [v]))) := by rw [A141 v hj hn]; rfl
theorem Ub141 (v : Nat) (g : zS → Option β) (hj : j < (Al 141).length) (hn : j < 1000) : ((O2 L).2.2.2.2.2.2.1 (ms z f A Al) 0 141 (nI j) (nI v)).bind g = g (ms z f A (va_up Al 141 ((Al 141).set j v))) := by rw [U141 v hj hn]; rfl
theorem Lb142 (g : Int32 → Option β) (hj : j < (Al 142).length) (hn : j < 1001) : ((O2 L).2.2.2.2.2.1 (ms z f A Al) 1 142 (nI j)).bind g = g (nI ((Al 142).getD j 0)) := by rw [L142 hj hn]; rfl
theorem Ab142 (v : Nat) (g : zS → Option β) (hj : (Al 142).length = j) (hn : j < 1001) : ((O2 L).2.2.2.2.2.2.1 (ms z f A Al) 1 142 (nI j) (nI v)).bind g = g (ms z f A (va_up Al 142 (Al 142 ++ [v]))) := by rw [A142 v hj hn]; rfl
theorem Ub142 (v : Nat) (g : zS → Option β) (hj : j < (Al 142).length) (hn : j < 1001) : ((O2 L).2.2.2.2.2.2.1 (ms z f A Al) 1 142 (nI j) (nI v)).bind g = g (ms z f A (va_up Al 142 ((Al 142).set j v))) := by rw [U142 v hj hn]; rfl
theorem Lb143 (g : Int32 → Option β) (hj : j < (Al 143).length) (hn : j < 1001) : ((O2 L).2.2.2.2.2.1 (ms z f A Al) 1 143 (nI j)).bind g = g (nI ((Al 143).getD j 0)) := by rw [L143 hj hn]; rfl
theorem Ab143 (v : Nat) (g : zS → Option β) (hj : (Al 143).length = j) (hn : j < 1001) : ((O2 L).2.2.2.2.2.2.1 (ms z f A Al) 1 143 (nI j) (nI v)).bind g = g (ms z f A (va_up Al 143 (Al 143 ++ [v]))) := by rw [A143 v hj hn]; rfl
theorem Ub143 (v : Nat) (g : zS → Option β) (hj : j < (Al 143).length) (hn : j < 1001) : ((O2 L).2.2.2.2.2.2.1 (ms z f A Al) 1 143 (nI j) (nI v)).bind g = g (ms z f A (va_up Al 143 ((Al 143).set j v))) := by rw [U143 v hj hn]; rfl
theorem Lb144 (g : Int32 → Option β) (hj : j < (Al 144).length) (hn : j < 400) : ((O2 L).2.2.2.2.2.1 (ms z f A Al) 0 144 (nI j)).bind g = g (nI ((Al 144).getD j 0)) := by rw [L144 hj hn]; rfl
theorem Ab144 (v : Nat) (g : zS → Option β) (hj : (Al 144).length = j) (hn : j < 400) : ((O2 L).2.2.2.2.2.2.1 (ms z f A Al) 0 144 (nI j) (nI v)).bind g = g (ms z f A (va_up Al 144 (Al 144 ++ [v]))) := by rw [A144 v hj hn]; rfl
theorem Ub144 (v : Nat) (g : zS → Option β) (hj : j < (Al 144).length) (hn : j < 400) : ((O2 L).2.2.2.2.2.2.1 (ms z f A Al) 0 144 (nI j) (nI v)).bind g = g (ms z f A (va_up Al 144 ((Al 144).set j v))) := by rw [U144 v hj hn]; rfl
theorem Lb145 (g : Int32 → Option β) (hj : j < (Al 145).length) (hn : j < 400) : ((O2 L).2.2.2.2.2.1 (ms z f A Al) 0 145 (nI j)).bind g = g (nI ((Al 145).getD j 0)) := by rw [L145 hj hn]; rfl
theorem Ab145 (v : Nat) (g : zS → Option β) (hj : (Al 145).length = j) (hn : j < 400) : ((O2 L).2.2.2.2.2.2.1 (ms z f A Al) 0 145 (nI j) (nI v)).bind g = g (ms z f A (va_up Al 145 (Al 145 ++ [v]))) := by rw [A145 v hj hn]; rfl
theorem Ub145 (v : Nat) (g : zS → Option β) (hj : j < (Al 145).length) (hn : j < 400) : ((O2 L).2.2.2.2.2.2.1 (ms z f A Al) 0 145 (nI j) (nI v)).bind g = g (ms z f A (va_up Al 145 ((Al 145).set j v))) := by rw [U145 v hj hn]; rfl
theorem Lb146 (g : Int32 → Option β) (hj : j < (Al 146).length) (hn : j < 400) : ((O2 L).2.2.2.2.2.1 (ms z f A Al) 1 146 (nI j)).bind g = g (nI ((Al 146).getD j 0)) := by rw [L146 hj hn]; rfl
theorem Ab146 (v : Nat) (g : zS → Option β) (hj : (Al 146).length = j) (hn : j < 400) : ((O2 L).2.2.2.2.2.2.1 (ms z f A Al) 1 146 (nI j) (nI v)).bind g = g (ms z f A (va_up Al 146 (Al 146 ++ [v]))) := by rw [A146 v hj hn]; rfl
theorem Ub146 (v : Nat) (g : zS → Option β) (hj : j < (Al 146).length) (hn : j < 400) : ((O2 L).2.2.2.2.2.2.1 (ms z f A Al) 1 146 (nI j) (nI v)).bind g = g (ms z f A (va_up Al 146 ((Al 146).set j v))) := by rw [U146 v hj hn]; rfl
theorem Lb147 (g : Int32 → Option β) (hj : j < (Al 147).length) (hn : j < 300) : ((O2 L).2.2.2.2.2.1 (ms z f A Al) 0 147 (nI j)).bind g = g (nI ((Al 147).getD j 0)) := by rw [L147 hj hn]; rfl
theorem Ab147 (v : Nat) (g : zS → Option β) (hj : (Al 147).length = j) (hn : j < 300) : ((O2 L).2.2.2.2.2.2.1 (ms z f A Al) 0 147 (nI j) (nI v)).bind g = g (ms z f A (va_up Al 147 (Al 147 ++ [v]))) := by rw [A147 v hj hn]; rfl
theorem Ub147 (v : Nat) (g : zS → Option β) (hj : j < (Al 147).length) (hn : j < 300) : ((O2 L).2.2.2.2.2.2.1 (ms z f A Al) 0 147 (nI j) (nI v)).bind g = g (ms z f A (va_up Al 147 ((Al 147).set j v))) := by rw [U147 v hj hn]; rfl
theorem Lb148 (g : Int32 → Option β) (hj : j < (Al 148).length) (hn : j < 300) : ((O2 L).2.2.2.2.2.1 (ms z f A Al) 0 148 (nI j)).bind g = g (nI ((Al 148).getD j 0)) := by rw [L148 hj hn]; rfl
theorem Ab148 (v : Nat) (g : zS → Option β) (hj : (Al 148).length = j) (hn : j < 300) : ((O2 L).2.2.2.2.2.2.1 (ms z f A Al) 0 148 (nI j) (nI v)).bind g = g (ms z f A (va_up Al 148 (Al 148 ++ [v]))) := by rw [A148 v hj hn]; rfl
theorem Ub148 (v : Nat) (g : zS → Option β) (hj : j < (Al 148).length) (hn : j < 300) : ((O2 L).2.2.2.2.2.2.1 (ms z f A Al) 0 148 (nI j) (nI v)).bind g = g (ms z f A (va_up Al 148 ((Al 148).set j v))) := by rw [U148 v hj hn]; rfl
theorem Lb149 (g : Int32 → Option β) (hj : j < (Al 149).length) (hn : j < 300) : ((O2 L).2.2.2.2.2.1 (ms z f A Al) 0 149 (nI j)).bind g = g (nI ((Al 149).getD j 0)) := by rw [L149 hj hn]; rfl
theorem Ab149 (v : Nat) (g : zS → Option β) (hj : (Al 149).length = j) (hn : j < 300) : ((O2 L).2.2.2.2.2.2.1 (ms z f A Al) 0 149 (nI j) (nI v)).bind g = g (ms z f A (va_up Al 149 (Al 149 ++ [v]))) := by rw [A149 v hj hn]; rfl
theorem Ub149 (v : Nat) (g : zS → Option β) (hj : j < (Al 149).length) (hn : j < 300) : ((O2 L).2.2.2.2.2.2.1 (ms z f A Al) 0 149 (nI j) (nI v)).bind g = g (ms z f A (va_up Al 149 ((Al 149).set j v))) := by rw [U149 v hj hn]; rfl
theorem Lb150 (g : Int32 → Option β) (hj : j < (Al 150).length) (hn : j < 300) : ((O2 L).2.2.2.2.2.1 (ms z f A Al) 0 150 (nI j)).bind g = g (nI ((Al 150).getD j 0)) := by rw [L150 hj hn]; rfl
theorem Ab150 (v : Nat) (g : zS → Option β) (hj : (Al 150).length = j) (hn : j < 300) : ((O2 L).2.2.2.2.2.2.1 (ms z f A Al) 0 150 (nI j) (nI v)).bind g = g (ms z f A (va_up Al 150 (Al 150 ++ [v]))) := by rw [A150 v hj hn]; rfl
theorem Ub150 (v : Nat) (g : zS → Option β) (hj : j < (Al 150).length) (hn : j < 300) : ((O2 L).2.2.2.2.2.2.1 (ms z f A Al) 0 150 (nI j) (nI v)).bind g = g (ms z f A (va_up Al 150 ((Al 150).set j v))) := by rw [U150 v hj hn]; rfl
theorem Lb151 (g : Int32 → Option β) (hj : j < (Al 151).length) (hn : j < 301) : ((O2 L).2.2.2.2.2.1 (ms z f A Al) 0 151 (nI j)).bind g = g (nI ((Al 151).getD j 0)) := by rw [L151 hj hn]; rfl
theorem Ab151 (v : Nat) (g : zS → Option β) (hj : (Al 151).length = j) (hn : j < 301) : ((O2 L).2.2.2.2.2.2.1 (ms z f A Al) 0 151 (nI j) (nI v)).bind g = g (ms z f A (va_up Al 151 (Al 151 ++ [v]))) := by rw [A151 v hj hn]; rfl
theorem Ub151 (v : Nat) (g : zS → Option β) (hj : j < (Al 151).length) (hn : j < 301) : ((O2 L).2.2.2.2.2.2.1 (ms z f A Al) 0 151 (nI j) (nI v)).bind g = g (ms z f A (va_up Al 151 ((Al 151).set j v))) := by rw [U151 v hj hn]; rfl
theorem Lb152 (g : Int32 → Option β) (hj : j < (Al 152).length) (hn : j < 12) : ((O2 L).2.2.2.2.2.1 (ms z f A Al) 0 152 (nI j)).bind g = g (nI ((Al 152).getD j 0)) := by rw [L152 hj hn]; rfl
theorem Ab152 (v : Nat) (g : zS → Option β) (hj : (Al 152).length = j) (hn : j < 12) : ((O2 L).2.2.2.2.2.2.1 (ms z f A Al) 0 152 (nI j) (nI v)).bind g = g (ms z f A (va_up Al 152 (Al 152 ++ [v]))) := by rw [A152 v hj hn]; rfl
theorem Ub152 (v : Nat) (g : zS → Option β) (hj : j < (Al 152).length) (hn : j < 12) : ((O2 L).2.2.2.2.2.2.1 (ms z f A Al) 0 152 (nI j) (nI v)).bind g = g (ms z f A (va_up Al 152 ((Al 152).set j v))) := by rw [U152 v hj hn]; rfl
theorem Lb153 (g : Int32 → Option β) (hj : j < (Al 153).length) (hn : j < 12) : ((O2 L).2.2.2.2.2.1 (ms z f A Al) 0 153 (nI j)).bind g = g (nI ((Al 153).getD j 0)) := by rw [L153 hj hn]; rfl
theorem Ab153 (v : Nat) (g : zS → Option β) (hj : (Al 153).length = j) (hn : j < 12) : ((O2 L).2.2.2.2.2.2.1 (ms z f A Al) 0 153 (nI j) (nI v)).bind g = g (ms z f A (va_up Al 153 (Al 153 ++ [v]))) := by rw [A153 v hj hn]; rfl
theorem Ub153 (v : Nat) (g : zS → Option β) (hj : j < (Al 153).length) (hn : j < 12) : ((O2 L).2.2.2.2.2.2.1 (ms z f A Al) 0 153 (nI j) (nI v)).bind g = g (ms z f A (va_up Al 153 ((Al 153).set j v))) := by rw [U153 v hj hn]; rfl
theorem Lb154 (g : Int32 → Option β) (hj : j < (Al 154).length) (hn : j < 12) : ((O2 L).2.2.2.2.2.1 (ms z f A Al) 0 154 (nI j)).bind g = g (nI ((Al 154).getD j 0)) := by rw [L154 hj hn]; rfl
theorem Ab154 (v : Nat) (g : zS → Option β) (hj : (Al 154).length = j) (hn : j < 12) : ((O2 L).2.2.2.2.2.2.1 (ms z f A Al) 0 154 (nI j) (nI v)).bind g = g (ms z f A (va_up Al 154 (Al 154 ++ [v]))) := by rw [A154 v hj hn]; rfl
theorem Ub154 (v : Nat) (g : zS → Option β) (hj : j < (Al 154).length) (hn : j < 12) : ((O2 L).2.2.2.2.2.2.1 (ms z f A Al) 0 154 (nI j) (nI v)).bind g = g (ms z f A (va_up Al 154 ((Al 154).set j v))) := by rw [U154 v hj hn]; rfl
theorem Lb155 (g : Int32 → Option β) (hj : j < (Al 155).length) (hn : j < 80) : ((O2 L).2.2.2.2.2.1 (ms z f A Al) 0 155 (nI j)).bind g = g (nI ((Al 155).getD j 0)) := by rw [L155 hj hn]; rfl
theorem Ab155 (v : Nat) (g : zS → Option β) (hj : (Al 155).length = j) (hn : j < 80) : ((O2 L).2.2.2.2.2.2.1 (ms z f A Al) 0 155 (nI j) (nI v)).bind g = g (ms z f A (va_up Al 155 (Al 155 ++ [v]))) := by rw [A155 v hj hn]; rfl
theorem Ub155 (v : Nat) (g : zS → Option β) (hj : j < (Al 155).length) (hn : j < 80) : ((O2 L).2.2.2.2.2.2.1 (ms z f A Al) 0 155 (nI j) (nI v)).bind g = g (ms z f A (va_up Al 155 ((Al 155).set j v))) := by rw [U155 v hj hn]; rfl
theorem Lb156 (g : Int32 → Option β) (hj : j < (Al 156).length) (hn : j < 80) : ((O2 L).2.2.2.2.2.1 (ms z f A Al) 0 156 (nI j)).bind g = g (nI ((Al 156).getD j 0)) := by rw [L156 hj hn]; rfl
theorem Ab156 (v : Nat) (g : zS → Option β) (hj : (Al 156).length = j) (hn : j < 80) : ((O2 L).2.2.2.2.2.2.1 (ms z f A Al) 0 156 (nI j) (nI v)).bind g = g (ms z f A (va_up Al 156 (Al 156 ++ [v]))) := by rw [A156 v hj hn]; rfl
theorem Ub156 (v : Nat) (g : zS → Option β) (hj : j < (Al 156).length) (hn : j < 80) : ((O2 L).2.2.2.2.2.2.1 (ms z f A Al) 0 156 (nI j) (nI v)).bind g = g (ms z f A (va_up Al 156 ((Al 156).set j v))) := by rw [U156 v hj hn]; rfl
theorem Lb157 (g : Int32 → Option β) (hj : j < (Al 157).length) (hn : j < 80) : ((O2 L).2.2.2.2.2.1 (ms z f A Al) 0 157 (nI j)).bind g = g (nI ((Al 157).getD j 0)) := by rw [L157 hj hn]; rfl
theorem Ab157 (v : Nat) (g : zS → Option β) (hj : (Al 157).length = j) (hn : j < 80) : ((O2 L).2.2.2.2.2.2.1 (ms z f A Al) 0 157 (nI j) (nI v)).bind g = g (ms z f A (va_up Al 157 (Al 157 ++ [v]))) := by rw [A157 v hj hn]; rfl
theorem Ub157 (v : Nat) (g : zS → Option β) (hj : j < (Al 157).length) (hn : j < 80) : ((O2 L).2.2.2.2.2.2.1 (ms z f A Al) 0 157 (nI j) (nI v)).bind g = g (ms z f A (va_up Al 157 ((Al 157).set j v))) := by rw [U157 v hj hn]; rfl
theorem Lb158 (g : Int32 → Option β) (hj : j < (Al 158).length) (hn : j < 1000) : ((O2 L).2.2.2.2.2.1 (ms z f A Al) 0 158 (nI j)).bind g = g (nI ((Al 158).getD j 0)) := by rw [L158 hj hn]; rfl
theorem Ab158 (v : Nat) (g : zS → Option β) (hj : (Al 158).length = j) (hn : j < 1000) : ((O2 L).2.2.2.2.2.2.1 (ms z f A Al) 0 158 (nI j) (nI v)).bind g = g (ms z f A (va_up Al 158 (Al 158 ++ [v]))) := by rw [A158 v hj hn]; rfl
theorem Ub158 (v : Nat) (g : zS → Option β) (hj : j < (Al 158).length) (hn : j < 1000) : ((O2 L).2.2.2.2.2.2.1 (ms z f A Al) 0 158 (nI j) (nI v)).bind g = g (ms z f A (va_up Al 158 ((Al 158).set j v))) := by rw [U158 v hj hn]; rfl
theorem Lb159 (g : Int32 → Option β) (hj : j < (Al 159).length) (hn : j < 200) : ((O2 L).2.2.2.2.2.1 (ms z f A Al) 0 159 (nI j)).bind g = g (nI ((Al 159).getD j 0)) := by rw [L159 hj hn]; rfl
theorem Ab159 (v : Nat) (g : zS → Option β) (hj : (Al 159).length = j) (hn : j < 200) : ((O2 L).2.2.2.2.2.2.1 (ms z f A Al) 0 159 (nI j) (nI v)).bind g = g (ms z f A (va_up Al 159 (Al 159 ++ [v]))) := by rw [A159 v hj hn]; rfl
theorem Ub159 (v : Nat) (g : zS → Option β) (hj : j < (Al 159).length) (hn : j < 200) : ((O2 L).2.2.2.2.2.2.1 (ms z f A Al) 0 159 (nI j) (nI v)).bind g = g (ms z f A (va_up Al 159 ((Al 159).set j v))) := by rw [U159 v hj hn]; rfl
theorem Lb160 (g : Int32 → Option β) (hj : j < (Al 160).length) (hn : j < 200) : ((O2 L).2.2.2.2.2.1 (ms z f A Al) 0 160 (nI j)).bind g = g (nI ((Al 160).getD j 0)) := by rw [L160 hj hn]; rfl
theorem Ab160 (v : Nat) (g : zS → Option β) (hj : (Al 160).length = j) (hn : j < 200) : ((O2 L).2.2.2.2.2.2.1 (ms z f A Al) 0 160 (nI j) (nI v)).bind g = g (ms z f A (va_up Al 160 (Al 160 ++ [v]))) := by rw [A160 v hj hn]; rfl
theorem Ub160 (v : Nat) (g : zS → Option β) (hj : j < (Al 160).length) (hn : j < 200) : ((O2 L).2.2.2.2.2.2.1 (ms z f A Al) 0 160 (nI j) (nI v)).bind g = g (ms z f A (va_up Al 160 ((Al 160).set j v))) := by rw [U160 v hj hn]; rfl
theorem Lb161 (g : Int32 → Option β) (hj : j < (Al 161).length) (hn : j < 200) : ((O2 L).2.2.2.2.2.1 (ms z f A Al) 0 161 (nI j)).bind g = g (nI ((Al 161).getD j 0)) := by rw [L161 hj hn]; rfl
theorem Ab161 (v : Nat) (g : zS → Option β) (hj : (Al 161).length = j) (hn : j < 200) : ((O2 L).2.2.2.2.2.2.1 (ms z f A Al) 0 161 (nI j) (nI v)).bind g = g (ms z f A (va_up Al 161 (Al 161 ++ [v]))) := by rw [A161 v hj hn]; rfl
theorem Ub161 (v : Nat) (g : zS → Option β) (hj : j < (Al 161).length) (hn : j < 200) : ((O2 L).2.2.2.2.2.2.1 (ms z f A Al) 0 161 (nI j) (nI v)).bind g = g (ms z f A (va_up Al 161 ((Al 161).set j v))) := by rw [U161 v hj hn]; rfl
theorem Lb162 (g : Int32 → Option β) (hj : j < (Al 162).length) (hn : j < 200) : ((O2 L).2.2.2.2.2.1 (ms z f A Al) 1 162 (nI j)).bind g = g (nI ((Al 162).getD j 0)) := by rw [L162 hj hn]; rfl
theorem Ab162 (v : Nat) (g : zS → Option β) (hj : (Al 162).length = j) (hn : j < 200) : ((O2 L).2.2.2.2.2.2.1 (ms z f A Al) 1 162 (nI j) (nI v)).bind g = g (ms z f A (va_up Al 162 (Al 162 ++ [v]))) := by rw [A162 v hj hn]; rfl
theorem Ub162 (v : Nat) (g : zS → Option β) (hj : j < (Al 162).length) (hn : j < 200) : ((O2 L).2.2.2.2.2.2.1 (ms z f A Al) 1 162 (nI j) (nI v)).bind g = g (ms z f A (va_up Al 162 ((Al 162).set j v))) := by rw [U162 v hj hn]; rfl
theorem Lb163 (g : Int32 → Option β) (hj : j < (Al 163).length) (hn : j < 200) : ((O2 L).2.2.2.2.2.1 (ms z f A Al) 1 163 (nI j)).bind g = g (nI ((Al 163).getD j 0)) := by rw [L163 hj hn]; rfl
theorem Ab163 (v : Nat) (g : zS → Option β) (hj : (Al 163).length = j) (hn : j < 200) : ((O2 L).2.2.2.2.2.2.1 (ms z f A Al) 1 163 (nI j) (nI v)).bind g = g (ms z f A (va_up Al 163 (Al 163 ++ [v]))) := by rw [A163 v hj hn]; rfl
theorem Ub163 (v : Nat) (g : zS → Option β) (hj : j < (Al 163).length) (hn : j < 200) : ((O2 L).2.2.2.2.2.2.1 (ms z f A Al) 1 163 (nI j) (nI v)).bind g = g (ms z f A (va_up Al 163 ((Al 163).set j v))) := by rw [U163 v hj hn]; rfl
theorem Lb164 (g : Int32 → Option β) (hj : j < (Al 164).length) (hn : j < 12) : ((O2 L).2.2.2.2.2.1 (ms z f A Al) 1 164 (nI j)).bind g = g (nI ((Al 164).getD j 0)) := by rw [L164 hj hn]; rfl
theorem Ab164 (v : Nat) (g : zS → Option β) (hj : (Al 164).length = j) (hn : j < 12) : ((O2 L).2.2.2.2.2.2.1 (ms z f A Al) 1 164 (nI j) (nI v)).bind g = g (ms z f A (va_up Al 164 (Al 164 ++ [v]))) := by rw [A164 v hj hn]; rfl
theorem Ub164 (v : Nat) (g : zS → Option β) (hj : j < (Al 164).length) (hn : j < 12) : ((O2 L).2.2.2.2.2.2.1 (ms z f A Al) 1 164 (nI j) (nI v)).bind g = g (ms z f A (va_up Al 164 ((Al 164).set j v))) := by rw [U164 v hj hn]; rfl
theorem Lb165 (g : Int32 → Option β) (hj : j < (Al 165).length) (hn : j < 12) : ((O2 L).2.2.2.2.2.1 (ms z f A Al) 1 165 (nI j)).bind g = g (nI ((Al 165).getD j 0)) := by rw [L165 hj hn]; rfl
theorem Ab165 (v : Nat) (g : zS → Option β) (hj : (Al 165).length = j) (hn : j < 12) : ((O2 L).2.2.2.2.2.2.1 (ms z f A Al) 1 165 (nI j) (nI v)).bind g = g (ms z f A (va_up Al 165 (Al 165 ++ [v]))) := by rw [A165 v hj hn]; rfl
theorem Ub165 (v : Nat) (g : zS → Option β) (hj : j < (Al 165).length) (hn : j < 12) : ((O2 L).2.2.2.2.2.2.1 (ms z f A Al) 1 165 (nI j) (nI v)).bind g = g (ms z f A (va_up Al 165 ((Al 165).set j v))) := by rw [U165 v hj hn]; rfl
theorem Lb166 (g : Int32 → Option β) (hj : j < (Al 166).length) (hn : j < 12) : ((O2 L).2.2.2.2.2.1 (ms z f A Al) 0 166 (nI j)).bind g = g (nI ((Al 166).getD j 0)) := by rw [L166 hj hn]; rfl
theorem Ab166 (v : Nat) (g : zS → Option β) (hj : (Al 166).length = j) (hn : j < 12) : ((O2 L).2.2.2.2.2.2.1 (ms z f A Al) 0 166 (nI j) (nI v)).bind g = g (ms z f A (va_up Al 166 (Al 166 ++ [v]))) := by rw [A166 v hj hn]; rfl
theorem Ub166 (v : Nat) (g : zS → Option β) (hj : j < (Al 166).length) (hn : j < 12) : ((O2 L).2.2.2.2.2.2.1 (ms z f A Al) 0 166 (nI j) (nI v)).bind g = g (ms z f A (va_up Al 166 ((Al 166).set j v))) := by rw [U166 v hj hn]; rfl
theorem Lb167 (g : Int32 → Option β) (hj : j < (Al 167).length) (hn : j < 3600) : ((O2 L).2.2.2.2.2.1 (ms z f A Al) 1 167 (nI j)).bind g = g (nI ((Al 167).getD j 0)) := by rw [L167 hj hn]; rfl
theorem Ab167 (v : Nat) (g : zS → Option β) (hj : (Al 167).length = j) (hn : j < 3600) : ((O2 L).2.2.2.2.2.2.1 (ms z f A Al) 1 167 (nI j) (nI v)).bind g = g (ms z f A (va_up Al 167 (Al 167 ++ [v]))) := by rw [A167 v hj hn]; rfl
theorem Ub167 (v : Nat) (g : zS → Option β) (hj : j < (Al 167).length) (hn : j < 3600) : ((O2 L).2.2.2.2.2.2.1 (ms z f A Al) 1 167 (nI j) (nI v)).bind g = g (ms z f A (va_up Al 167 ((Al 167).set j v))) := by rw [U167 v hj hn]; rfl
theorem Lb168 (g : Int32 → Option β) (hj : j < (Al 168).length) (hn : j < 300) : ((O2 L).2.2.2.2.2.1 (ms z f A Al) 1 168 (nI j)).bind g = g (nI ((Al 168).getD j 0)) := by rw [L168 hj hn]; rfl
theorem Ab168 (v : Nat) (g : zS → Option β) (hj : (Al 168).length = j) (hn : j < 300) : ((O2 L).2.2.2.2.2.2.1 (ms z f A Al) 1 168 (nI j) (nI v)).bind g = g (ms z f A (va_up Al 168 (Al 168 ++ [v]))) := by rw [A168 v hj hn]; rfl
theorem Ub168 (v : Nat) (g : zS → Option β) (hj : j < (Al 168).length) (hn : j < 300) : ((O2 L).2.2.2.2.2.2.1 (ms z f A Al) 1 168 (nI j) (nI v)).bind g = g (ms z f A (va_up Al 168 ((Al 168).set j v))) := by rw [U168 v hj hn]; rfl
theorem Lb169 (g : Int32 → Option β) (hj : j < (Al 169).length) (hn : j < 300) : ((O2 L).2.2.2.2.2.1 (ms z f A Al) 1 169 (nI j)).bind g = g (nI ((Al 169).getD j 0)) := by rw [L169 hj hn]; rfl
theorem Ab169 (v : Nat) (g : zS → Option β) (hj : (Al 169).length = j) (hn : j < 300) : ((O2 L).2.2.2.2.2.2.1 (ms z f A Al) 1 169 (nI j) (nI v)).bind g = g (ms z f A (va_up Al 169 (Al 169 ++ [v]))) := by rw [A169 v hj hn]; rfl
theorem Ub169 (v : Nat) (g : zS → Option β) (hj : j < (Al 169).length) (hn : j < 300) : ((O2 L).2.2.2.2.2.2.1 (ms z f A Al) 1 169 (nI j) (nI v)).bind g = g (ms z f A (va_up Al 169 ((Al 169).set j v))) := by rw [U169 v hj hn]; rfl
theorem Lb170 (g : Int32 → Option β) (hj : j < (Al 170).length) (hn : j < 300) : ((O2 L).2.2.2.2.2.1 (ms z f A Al) 0 170 (nI j)).bind g = g (nI ((Al 170).getD j 0)) := by rw [L170 hj hn]; rfl
theorem Ab170 (v : Nat) (g : zS → Option β) (hj : (Al 170).length = j) (hn : j < 300) : ((O2 L).2.2.2.2.2.2.1 (ms z f A Al) 0 170 (nI j) (nI v)).bind g = g (ms z f A (va_up Al 170 (Al 170 ++ [v]))) := by rw [A170 v hj hn]; rfl
theorem Ub170 (v : Nat) (g : zS → Option β) (hj : j < (Al 170).length) (hn : j < 300) : ((O2 L).2.2.2.2.2.2.1 (ms z f A Al) 0 170 (nI j) (nI v)).bind g = g (ms z f A (va_up Al 170 ((Al 170).set j v))) := by rw [U170 v hj hn]; rfl
theorem Lb171 (g : Int32 → Option β) (hj : j < (Al 171).length) (hn : j < 300) : ((O2 L).2.2.2.2.2.1 (ms z f A Al) 0 171 (nI j)).bind g = g (nI ((Al 171).getD j 0)) := by rw [L171 hj hn]; rfl
theorem Ab171 (v : Nat) (g : zS → Option β) (hj : (Al 171).length = j) (hn : j < 300) : ((O2 L).2.2.2.2.2.2.1 (ms z f A Al) 0 171 (nI j) (nI v)).bind g = g (ms z f A (va_up Al 171 (Al 171 ++ [v]))) := by rw [A171 v hj hn]; rfl
theorem Ub171 (v : Nat) (g : zS → Option β) (hj : j < (Al 171).length) (hn : j < 300) : ((O2 L).2.2.2.2.2.2.1 (ms z f A Al) 0 171 (nI j) (nI v)).bind g = g (ms z f A (va_up Al 171 ((Al 171).set j v))) := by rw [U171 v hj hn]; rfl
theorem Lb172 (g : Int32 → Option β) (hj : j < (Al 172).length) (hn : j < 6000) : ((O2 L).2.2.2.2.2.1 (ms z f A Al) 0 172 (nI j)).bind g = g (nI ((Al 172).getD j 0)) := by rw [L172 hj hn]; rfl
theorem Ab172 (v : Nat) (g : zS → Option β) (hj : (Al 172).length = j) (hn : j < 6000) : ((O2 L).2.2.2.2.2.2.1 (ms z f A Al) 0 172 (nI j) (nI v)).bind g = g (ms z f A (va_up Al 172 (Al 172 ++ [v]))) := by rw [A172 v hj hn]; rfl
theorem Ub172 (v : Nat) (g : zS → Option β) (hj : j < (Al 172).length) (hn : j < 6000) : ((O2 L).2.2.2.2.2.2.1 (ms z f A Al) 0 172 (nI j) (nI v)).bind g = g (ms z f A (va_up Al 172 ((Al 172).set j v))) := by rw [U172 v hj hn]; rfl
theorem Lb173 (g : Int32 → Option β) (hj : j < (Al 173).length) (hn : j < 9) : ((O2 L).2.2.2.2.2.1 (ms z f A Al) 0 173 (nI j)).bind g = g (nI ((Al 173).getD j 0)) := by rw [L173 hj hn]; rfl
theorem Ab173 (v : Nat) (g : zS → Option β) (hj : (Al 173).length = j) (hn : j < 9) : ((O2 L).2.2.2.2.2.2.1 (ms z f A Al) 0 173 (nI j) (nI v)).bind g = g (ms z f A (va_up Al 173 (Al 173 ++ [v]))) := by rw [A173 v hj hn]; rfl
theorem Ub173 (v : Nat) (g : zS → Option β) (hj : j < (Al 173).length) (hn : j < 9) : ((O2 L).2.2.2.2.2.2.1 (ms z f A Al) 0 173 (nI j) (nI v)).bind g = g (ms z f A (va_up Al 173 ((Al 173).set j v))) := by rw [U173 v hj hn]; rfl
theorem Lb174 (g : Int32 → Option β) (hj : j < (Al 174).length) (hn : j < 9) : ((O2 L).2.2.2.2.2.1 (ms z f A Al) 0 174 (nI j)).bind g = g (nI ((Al 174).getD j 0)) := by rw [L174 hj hn]; rfl
theorem Ab174 (v : Nat) (g : zS → Option β) (hj : (Al 174).length = j) (hn : j < 9) : ((O2 L).2.2.2.2.2.2.1 (ms z f A Al) 0 174 (nI j) (nI v)).bind g = g (ms z f A (va_up Al 174 (Al 174 ++ [v]))) := by rw [A174 v hj hn]; rfl
theorem Ub174 (v : Nat) (g : zS → Option β) (hj : j < (Al 174).length) (hn : j < 9) : ((O2 L).2.2.2.2.2.2.1 (ms z f A Al) 0 174 (nI j) (nI v)).bind g = g (ms z f A (va_up Al 174 ((Al 174).set j v))) := by rw [U174 v hj hn]; rfl
theorem Lb175 (g : Int32 → Option β) (hj : j < (Al 175).length) (hn : j < 12) : ((O2 L).2.2.2.2.2.1 (ms z f A Al) 0 175 (nI j)).bind g = g (nI ((Al 175).getD j 0)) := by rw [L175 hj hn]; rfl
theorem Ab175 (v : Nat) (g : zS → Option β) (hj : (Al 175).length = j) (hn : j < 12) : ((O2 L).2.2.2.2.2.2.1 (ms z f A Al) 0 175 (nI j) (nI v)).bind g = g (ms z f A (va_up Al 175 (Al 175 ++ [v]))) := by rw [A175 v hj hn]; rfl
theorem Ub175 (v : Nat) (g : zS → Option β) (hj : j < (Al 175).length) (hn : j < 12) : ((O2 L).2.2.2.2.2.2.1 (ms z f A Al) 0 175 (nI j) (nI v)).bind g = g (ms z f A (va_up Al 175 ((Al 175).set j v))) := by rw [U175 v hj hn]; rfl
theorem Lb176 (g : Int32 → Option β) (hj : j < (Al 176).length) (hn : j < 12) : ((O2 L).2.2.2.2.2.1 (ms z f A Al) 0 176 (nI j)).bind g = g (nI ((Al 176).getD j 0)) := by rw [L176 hj hn]; rfl
theorem Ab176 (v : Nat) (g : zS → Option β) (hj : (Al 176).length = j) (hn : j < 12) : ((O2 L).2.2.2.2.2.2.1 (ms z f A Al) 0 176 (nI j) (nI v)).bind g = g (ms z f A (va_up Al 176 (Al 176 ++ [v]))) := by rw [A176 v hj hn]; rfl
theorem Ub176 (v : Nat) (g : zS → Option β) (hj : j < (Al 176).length) (hn : j < 12) : ((O2 L).2.2.2.2.2.2.1 (ms z f A Al) 0 176 (nI j) (nI v)).bind g = g (ms z f A (va_up Al 176 ((Al 176).set j v))) := by rw [U176 v hj hn]; rfl
theorem Lb177 (g : Int32 → Option β) (hj : j < (Al 177).length) (hn : j < 12) : ((O2 L).2.2.2.2.2.1 (ms z f A Al) 0 177 (nI j)).bind g = g (nI ((Al 177).getD j 0)) := by rw [L177 hj hn]; rfl
theorem Ab177 (v : Nat) (g : zS → Option β) (hj : (Al 177).length = j) (hn : j < 12) : ((O2 L).2.2.2.2.2.2.1 (ms z f A Al) 0 177 (nI j) (nI v)).bind g = g (ms z f A (va_up Al 177 (Al 177 ++ [v]))) := by rw [A177 v hj hn]; rfl
theorem Ub177 (v : Nat) (g : zS → Option β) (hj : j < (Al 177).length) (hn : j < 12) : ((O2 L).2.2.2.2.2.2.1 (ms z f A Al) 0 177 (nI j) (nI v)).bind g = g (ms z f A (va_up Al 177 ((Al 177).set j v))) := by rw [U177 v hj hn]; rfl
theorem Lb178 (g : Int32 → Option β) (hj : j < (Al 178).length) (hn : j < 80) : ((O2 L).2.2.2.2.2.1 (ms z f A Al) 0 178 (nI j)).bind g = g (nI ((Al 178).getD j 0)) := by rw [L178 hj hn]; rfl
theorem Ab178 (v : Nat) (g : zS → Option β) (hj : (Al 178).length = j) (hn : j < 80) : ((O2 L).2.2.2.2.2.2.1 (ms z f A Al) 0 178 (nI j) (nI v)).bind g = g (ms z f A (va_up Al 178 (Al 178 ++ [v]))) := by rw [A178 v hj hn]; rfl
theorem Ub178 (v : Nat) (g : zS → Option β) (hj : j < (Al 178).length) (hn : j < 80) : ((O2 L).2.2.2.2.2.2.1 (ms z f A Al) 0 178 (nI j) (nI v)).bind g = g (ms z f A (va_up Al 178 ((Al 178).set j v))) := by rw [U178 v hj hn]; rfl
theorem Lb179 (g : Int32 → Option β) (hj : j < (Al 179).length) (hn : j < 80) : ((O2 L).2.2.2.2.2.1 (ms z f A Al) 0 179 (nI j)).bind g = g (nI ((Al 179).getD j 0)) := by rw [L179 hj hn]; rfl
theorem Ab179 (v : Nat) (g : zS → Option β) (hj : (Al 179).length = j) (hn : j < 80) : ((O2 L).2.2.2.2.2.2.1 (ms z f A Al) 0 179 (nI j) (nI v)).bind g = g (ms z f A (va_up Al 179 (Al 179 ++ [v]))) := by rw [A179 v hj hn]; rfl
theorem Ub179 (v : Nat) (g : zS → Option β) (hj : j < (Al 179).length) (hn : j < 80) : ((O2 L).2.2.2.2.2.2.1 (ms z f A Al) 0 179 (nI j) (nI v)).bind g = g (ms z f A (va_up Al 179 ((Al 179).set j v))) := by rw [U179 v hj hn]; rfl
theorem Lb180 (g : Int32 → Option β) (hj : j < (Al 180).length) (hn : j < 80) : ((O2 L).2.2.2.2.2.1 (ms z f A Al) 0 180 (nI j)).bind g = g (nI ((Al 180).getD j 0)) := by rw [L180 hj hn]; rfl
theorem Ab180 (v : Nat) (g : zS → Option β) (hj : (Al 180).length = j) (hn : j < 80) : ((O2 L).2.2.2.2.2.2.1 (ms z f A Al) 0 180 (nI j) (nI v)).bind g = g (ms z f A (va_up Al 180 (Al 180 ++ [v]))) := by rw [A180 v hj hn]; rfl
theorem Ub180 (v : Nat) (g : zS → Option β) (hj : j < (Al 180).length) (hn : j < 80) : ((O2 L).2.2.2.2.2.2.1 (ms z f A Al) 0 180 (nI j) (nI v)).bind g = g (ms z f A (va_up Al 180 ((Al 180).set j v))) := by rw [U180 v hj hn]; rfl
theorem Lb181 (g : Int32 → Option β) (hj : j < (Al 181).length) (hn : j < 200) : ((O2 L).2.2.2.2.2.1 (ms z f A Al) 0 181 (nI j)).bind g = g (nI ((Al 181).getD j 0)) := by rw [L181 hj hn]; rfl
theorem Ab181 (v : Nat) (g : zS → Option β) (hj : (Al 181).length = j) (hn : j < 200) : ((O2 L).2.2.2.2.2.2.1 (ms z f A Al) 0 181 (nI j) (nI v)).bind g = g (ms z f A (va_up Al 181 (Al 181 ++ [v]))) := by rw [A181 v hj hn]; rfl
theorem Ub181 (v : Nat) (g : zS → Option β) (hj : j < (Al 181).length) (hn : j < 200) : ((O2 L).2.2.2.2.2.2.1 (ms z f A Al) 0 181 (nI j) (nI v)).bind g = g (ms z f A (va_up Al 181 ((Al 181).set j v))) := by rw [U181 v hj hn]; rfl
theorem Lb182 (g : Int32 → Option β) (hj : j < (Al 182).length) (hn : j < 200) : ((O2 L).2.2.2.2.2.1 (ms z f A Al) 0 182 (nI j)).bind g = g (nI ((Al 182).getD j 0)) := by rw [L182 hj hn]; rfl
theorem Ab182 (v : Nat) (g : zS → Option β) (hj : (Al 182).length = j) (hn : j < 200) : ((O2 L).2.2.2.2.2.2.1 (ms z f A Al) 0 182 (nI j) (nI v)).bind g = g (ms z f A (va_up Al 182 (Al 182 ++ [v]))) := by rw [A182 v hj hn]; rfl
theorem Ub182 (v : Nat) (g : zS → Option β) (hj : j < (Al 182).length) (hn : j < 200) : ((O2 L).2.2.2.2.2.2.1 (ms z f A Al) 0 182 (nI j) (nI v)).bind g = g (ms z f A (va_up Al 182 ((Al 182).set j v))) := by rw [U182 v hj hn]; rfl
theorem Lb183 (g : Int32 → Option β) (hj : j < (Al 183).length) (hn : j < 200) : ((O2 L).2.2.2.2.2.1 (ms z f A Al) 0 183 (nI j)).bind g = g (nI ((Al 183).getD j 0)) := by rw [L183 hj hn]; rfl
theorem Ab183 (v : Nat) (g : zS → Option β) (hj : (Al 183).length = j) (hn : j < 200) : ((O2 L).2.2.2.2.2.2.1 (ms z f A Al) 0 183 (nI j) (nI v)).bind g = g (ms z f A (va_up Al 183 (Al 183 ++ [v]))) := by rw [A183 v hj hn]; rfl
theorem Ub183 (v : Nat) (g : zS → Option β) (hj : j < (Al 183).length) (hn : j < 200) : ((O2 L).2.2.2.2.2.2.1 (ms z f A Al) 0 183 (nI j) (nI v)).bind g = g (ms z f A (va_up Al 183 ((Al 183).set j v))) := by rw [U183 v hj hn]; rfl
theorem Lb184 (g : Int32 → Option β) (hj : j < (Al 184).length) (hn : j < 200) : ((O2 L).2.2.2.2.2.1 (ms z f A Al) 0 184 (nI j)).bind g = g (nI ((Al 184).getD j 0)) := by rw [L184 hj hn]; rfl
theorem Ab184 (v : Nat) (g : zS → Option β) (hj : (Al 184).length = j) (hn : j < 200) : ((O2 L).2.2.2.2.2.2.1 (ms z f A Al) 0 184 (nI j) (nI v)).bind g = g (ms z f A (va_up Al 184 (Al 184 ++ [v]))) := by rw [A184 v hj hn]; rfl
theorem Ub184 (v : Nat) (g : zS → Option β) (hj : j < (Al 184).length) (hn : j < 200) : ((O2 L).2.2.2.2.2.2.1 (ms z f A Al) 0 184 (nI j) (nI v)).bind g = g (ms z f A (va_up Al 184 ((Al 184).set j v))) := by rw [U184 v hj hn]; rfl
theorem Lb185 (g : Int32 → Option β) (hj : j < (Al 185).length) (hn : j < 200) : ((O2 L).2.2.2.2.2.1 (ms z f A Al) 0 185 (nI j)).bind g = g (nI ((Al 185).getD j 0)) := by rw [L185 hj hn]; rfl
theorem Ab185 (v : Nat) (g : zS → Option β) (hj : (Al 185).length = j) (hn : j < 200) : ((O2 L).2.2.2.2.2.2.1 (ms z f A Al) 0 185 (nI j) (nI v)).bind g = g (ms z f A (va_up Al 185 (Al 185 ++ [v]))) := by rw [A185 v hj hn]; rfl
theorem Ub185 (v : Nat) (g : zS → Option β) (hj : j < (Al 185).length) (hn : j < 200) : ((O2 L).2.2.2.2.2.2.1 (ms z f A Al) 0 185 (nI j) (nI v)).bind g = g (ms z f A (va_up Al 185 ((Al 185).set j v))) := by rw [U185 v hj hn]; rfl
theorem Lb186 (g : Int32 → Option β) (hj : j < (Al 186).length) (hn : j < 6) : ((O2 L).2.2.2.2.2.1 (ms z f A Al) 0 186 (nI j)).bind g = g (nI ((Al 186).getD j 0)) := by rw [L186 hj hn]; rfl
theorem Ab186 (v : Nat) (g : zS → Option β) (hj : (Al 186).length = j) (hn : j < 6) : ((O2 L).2.2.2.2.2.2.1 (ms z f A Al) 0 186 (nI j) (nI v)).bind g = g (ms z f A (va_up Al 186 (Al 186 ++ [v]))) := by rw [A186 v hj hn]; rfl
theorem Ub186 (v : Nat) (g : zS → Option β) (hj : j < (Al 186).length) (hn : j < 6) : ((O2 L).2.2.2.2.2.2.1 (ms z f A Al) 0 186 (nI j) (nI v)).bind g = g (ms z f A (va_up Al 186 ((Al 186).set j v))) := by rw [U186 v hj hn]; rfl
theorem Lb187 (g : Int32 → Option β) (hj : j < (Al 187).length) (hn : j < 6) : ((O2 L).2.2.2.2.2.1 (ms z f A Al) 0 187 (nI j)).bind g = g (nI ((Al 187).getD j 0)) := by rw [L187 hj hn]; rfl
theorem Ab187 (v : Nat) (g : zS → Option β) (hj : (Al 187).length = j) (hn : j < 6) : ((O2 L).2.2.2.2.2.2.1 (ms z f A Al) 0 187 (nI j) (nI v)).bind g = g (ms z f A (va_up Al 187 (Al 187 ++ [v]))) := by rw [A187 v hj hn]; rfl
theorem Ub187 (v : Nat) (g : zS → Option β) (hj : j < (Al 187).length) (hn : j < 6) : ((O2 L).2.2.2.2.2.2.1 (ms z f A Al) 0 187 (nI j) (nI v)).bind g = g (ms z f A (va_up Al 187 ((Al 187).set j v))) := by rw [U187 v hj hn]; rfl
theorem Lb188 (g : Int32 → Option β) (hj : j < (Al 188).length) (hn : j < 301) : ((O2 L).2.2.2.2.2.1 (ms z f A Al) 1 188 (nI j)).bind g = g (nI ((Al 188).getD j 0)) := by rw [L188 hj hn]; rfl
theorem Ab188 (v : Nat) (g : zS → Option β) (hj : (Al 188).length = j) (hn : j < 301) : ((O2 L).2.2.2.2.2.2.1 (ms z f A Al) 1 188 (nI j) (nI v)).bind g = g (ms z f A (va_up Al 188 (Al 188 ++ [v]))) := by rw [A188 v hj hn]; rfl
theorem Ub188 (v : Nat) (g : zS → Option β) (hj : j < (Al 188).length) (hn : j < 301) : ((O2 L).2.2.2.2.2.2.1 (ms z f A Al) 1 188 (nI j) (nI v)).bind g = g (ms z f A (va_up Al 188 ((Al 188).set j v))) := by rw [U188 v hj hn]; rfl
theorem Lb189 (g : Int32 → Option β) (hj : j < (Al 189).length) (hn : j < 9) : ((O2 L).2.2.2.2.2.1 (ms z f A Al) 0 189 (nI j)).bind g = g (nI ((Al 189).getD j 0)) := by rw [L189 hj hn]; rfl
theorem Ab189 (v : Nat) (g : zS → Option β) (hj : (Al 189).length = j) (hn : j < 9) : ((O2 L).2.2.2.2.2.2.1 (ms z f A Al) 0 189 (nI j) (nI v)).bind g = g (ms z f A (va_up Al 189 (Al 189 ++ [v]))) := by rw [A189 v hj hn]; rfl
theorem Ub189 (v : Nat) (g : zS → Option β) (hj : j < (Al 189).length) (hn : j < 9) : ((O2 L).2.2.2.2.2.2.1 (ms z f A Al) 0 189 (nI j) (nI v)).bind g = g (ms z f A (va_up Al 189 ((Al 189).set j v))) := by rw [U189 v hj hn]; rfl
theorem jb136_0 (z : zS) (g : Nat → Option β) : ((O2 L).2.1 z 136 8 0).bind g = g 137 := by rw [J136_0]; rfl
theorem jb136_2 (z : zS) (g : Nat → Option β) : ((O2 L).2.1 z 136 8 2).bind g = g 138 := by rw [J136_2]; rfl
theorem jb136_5 (z : zS) (g : Nat → Option β) : ((O2 L).2.1 z 136 8 5).bind g = g 139 := by rw [J136_5]; rfl
theorem jb136_6 (z : zS) (g : Nat → Option β) : ((O2 L).2.1 z 136 8 6).bind g = g 140 := by rw [J136_6]; rfl
theorem jb136_7 (z : zS) (g : Nat → Option β) : ((O2 L).2.1 z 136 8 7).bind g = g 141 := by rw [J136_7]; rfl
theorem jb136_8 (z : zS) (g : Nat → Option β) : ((O2 L).2.1 z 136 8 8).bind g = g 142 := by rw [J136_8]; rfl
theorem jb136_9 (z : zS) (g : Nat → Option β) : ((O2 L).2.1 z 136 8 9).bind g = g 143 := by rw [J136_9]; rfl
theorem jb136_11 (z : zS) (g : Nat → Option β) : ((O2 L).2.1 z 136 8 11).bind g = g 144 := by rw [J136_11]; rfl
theorem jb136_12 (z : zS) (g : Nat → Option β) : ((O2 L).2.1 z 136 8 12).bind g = g 145 := by rw [J136_12]; rfl
theorem jb136_13 (z : zS) (g : Nat → Option β) : ((O2 L).2.1 z 136 8 13).bind g = g 146 := by rw [J136_13]; rfl
theorem jb136_15 (z : zS) (g : Nat → Option β) : ((O2 L).2.1 z 136 8 15).bind g = g 147 := by rw [J136_15]; rfl
theorem jb136_16 (z : zS) (g : Nat → Option β) : ((O2 L).2.1 z 136 8 16).bind g = g 148 := by rw [J136_16]; rfl
theorem jb136_17 (z : zS) (g : Nat → Option β) : ((O2 L).2.1 z 136 8 17).bind g = g 149 := by rw [J136_17]; rfl
theorem jb136_18 (z : zS) (g : Nat → Option β) : ((O2 L).2.1 z 136 8 18).bind g = g 150 := by rw [J136_18]; rfl
theorem jb136_20 (z : zS) (g : Nat → Option β) : ((O2 L).2.1 z 136 8 20).bind g = g 151 := by rw [J136_20]; rfl
theorem jb136_22 (z : zS) (g : Nat → Option β) : ((O2 L).2.1 z 136 8 22).bind g = g 152 := by rw [J136_22]; rfl
theorem jb136_23 (z : zS) (g : Nat → Option β) : ((O2 L).2.1 z 136 8 23).bind g = g 153 := by rw [J136_23]; rfl
theorem jb136_24 (z : zS) (g : Nat → Option β) : ((O2 L).2.1 z 136 8 24).bind g = g 154 := by rw [J136_24]; rfl
theorem jb136_26 (z : zS) (g : Nat → Option β) : ((O2 L).2.1 z 136 8 26).bind g = g 155 := by rw [J136_26]; rfl
theorem jb136_27 (z : zS) (g : Nat → Option β) : ((O2 L).2.1 z 136 8 27).bind g = g 156 := by rw [J136_27]; rfl
theorem jb136_28 (z : zS) (g : Nat → Option β) : ((O2 L).2.1 z 136 8 28).bind g = g 157 := by rw [J136_28]; rfl
theorem jb136_29 (z : zS) (g : Nat → Option β) : ((O2 L).2.1 z 136 8 29).bind g = g 158 := by rw [J136_29]; rfl
theorem jb136_31 (z : zS) (g : Nat → Option β) : ((O2 L).2.1 z 136 8 31).bind g = g 159 := by rw [J136_31]; rfl
theorem jb136_32 (z : zS) (g : Nat → Option β) : ((O2 L).2.1 z 136 8 32).bind g = g 160 := by rw [J136_32]; rfl
theorem jb136_33 (z : zS) (g : Nat → Option β) : ((O2 L).2.1 z 136 8 33).bind g = g 161 := by rw [J136_33]; rfl
theorem jb136_34 (z : zS) (g : Nat → Option β) : ((O2 L).2.1 z 136 8 34).bind g = g 162 := by rw [J136_34]; rfl
theorem jb136_35 (z : zS) (g : Nat → Option β) : ((O2 L).2.1 z 136 8 35).bind g = g 163 := by rw [J136_35]; rfl
theorem jb136_37 (z : zS) (g : Nat → Option β) : ((O2 L).2.1 z 136 8 37).bind g = g 164 := by rw [J136_37]; rfl
theorem jb136_38 (z : zS) (g : Nat → Option β) : ((O2 L).2.1 z 136 8 38).bind g = g 165 := by rw [J136_38]; rfl
theorem jb136_39 (z : zS) (g : Nat → Option β) : ((O2 L).2.1 z 136 8 39).bind g = g 166 := by rw [J136_39]; rfl
theorem jb136_40 (z : zS) (g : Nat → Option β) : ((O2 L).2.1 z 136 8 40).bind g = g 167 := by rw [J136_40]; rfl
theorem jb136_41 (z : zS) (g : Nat → Option β) : ((O2 L).2.1 z 136 8 41).bind g = g 168 := by rw [J136_41]; rfl
theorem jb136_42 (z : zS) (g : Nat → Option β) : ((O2 L).2.1 z 136 8 42).bind g = g 169 := by rw [J136_42]; rfl
theorem jb136_44 (z : zS) (g : Nat → Option β) : ((O2 L).2.1 z 136 8 44).bind g = g 170 := by rw [J136_44]; rfl
theorem jb136_45 (z : zS) (g : Nat → Option β) : ((O2 L).2.1 z 136 8 45).bind g = g 171 := by rw [J136_45]; rfl
theorem jb136_46 (z : zS) (g : Nat → Option β) : ((O2 L).2.1 z 136 8 46).bind g = g 172 := by rw [J136_46]; rfl
theorem jb136_49 (z : zS) (g : Nat → Option β) : ((O2 L).2.1 z 136 8 49).bind g = g 173 := by rw [J136_49]; rfl
theorem jb136_50 (z : zS) (g : Nat → Option β) : ((O2 L).2.1 z 136 8 50).bind g = g 174 := by rw [J136_50]; rfl
theorem jb136_52 (z : zS) (g : Nat → Option β) : ((O2 L).2.1 z 136 8 52).bind g = g 175 := by rw [J136_52]; rfl
theorem jb136_53 (z : zS) (g : Nat → Option β) : ((O2 L).2.1 z 136 8 53).bind g = g 176 := by rw [J136_53]; rfl
theorem jb136_54 (z : zS) (g : Nat → Option β) : ((O2 L).2.1 z 136 8 54).bind g = g 177 := by rw [J136_54]; rfl
theorem jb136_56 (z : zS) (g : Nat → Option β) : ((O2 L).2.1 z 136 8 56).bind g = g 178 := by rw [J136_56]; rfl
theorem jb136_57 (z : zS) (g : Nat → Option β) : ((O2 L).2.1 z 136 8 57).bind g = g 179 := by rw [J136_57]; rfl
theorem jb136_58 (z : zS) (g : Nat → Option β) : ((O2 L).2.1 z 136 8 58).bind g = g 180 := by rw [J136_58]; rfl
theorem jb136_60 (z : zS) (g : Nat → Option β) : ((O2 L).2.1 z 136 8 60).bind g = g 181 := by rw [J136_60]; rfl
theorem jb136_61 (z : zS) (g : Nat → Option β) : ((O2 L).2.1 z 136 8 61).bind g = g 182 := by rw [J136_61]; rfl
theorem jb136_62 (z : zS) (g : Nat → Option β) : ((O2 L).2.1 z 136 8 62).bind g = g 183 := by rw [J136_62]; rfl
theorem jb136_63 (z : zS) (g : Nat → Option β) : ((O2 L).2.1 z 136 8 63).bind g = g 184 := by rw [J136_63]; rfl
theorem jb136_65 (z : zS) (g : Nat → Option β) : ((O2 L).2.1 z 136 8 65).bind g = g 185 := by rw [J136_65]; rfl
theorem jb136_70 (z : zS) (g : Nat → Option β) : ((O2 L).2.1 z 136 8 70).bind g = g 186 := by rw [J136_70]; rfl
theorem jb136_71 (z : zS) (g : Nat → Option β) : ((O2 L).2.1 z 136 8 71).bind g = g 187 := by rw [J136_71]; rfl
theorem jb136_72 (z : zS) (g : Nat → Option β) : ((O2 L).2.1 z 136 8 72).bind g = g 188 := by rw [J136_72]; rfl
theorem jb136_73 (z : zS) (g : Nat → Option β) : ((O2 L).2.1 z 136 8 73).bind g = g 189 := by rw [J136_73]; rfl
end
