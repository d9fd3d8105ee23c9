/-! WORDS AND SENTENCES out of the signs: n signs; ch their letters, at and en their places, bk whether a break stands ahead -/
def spB (c : Nat) : Bool := decide (c = 46) || decide (c = 33) || decide (c = 63)
def wfl (ch bk : Nat → Nat) : Nat → List Nat × List Nat
  | 0 => ([], [])
  | n + 1 => if isWd (ch n) = true then (if n ≠ 0 ∧ isWd (ch (n - 1)) = true ∧ bk n = 0 then ((wfl ch bk n).1, (wfl ch bk n).2.set ((wfl ch bk n).2.length - 1) n) else ((wfl ch bk n).1 ++ [n], (wfl ch bk n).2 ++ [n])) else wfl ch bk n
/-- whether a break, or a stop, stands between word k and word k + 1 -/
def brW (bk : Nat → Nat) (F G : List Nat) (k : Nat) : Bool := (List.range (F.getD (k + 1) 0 - G.getD k 0)).any (fun i => decide (bk (G.getD k 0 + 1 + i) = 1))
def stW (ch : Nat → Nat) (F G : List Nat) (k : Nat) : Bool := (List.range (F.getD (k + 1) 0 - G.getD k 0 - 1)).any (fun i => spB (ch (G.getD k 0 + 1 + i)) && decide (ch (G.getD k 0 + 1 + i + 1) = 32))
def wpl (bk : Nat → Nat) (F G : List Nat) : Nat → Nat
  | 0 => 0
  | k + 1 => wpl bk F G k + (if brW bk F G k = true then 11 else 1)
def swl (ch bk : Nat → Nat) (F G : List Nat) : Nat → List Nat
  | 0 => []
  | k + 1 => if k = 0 ∨ brW bk F G (k - 1) = true ∨ stW ch F G (k - 1) = true then swl ch bk F G k ++ [k] else swl ch bk F G k
/-- where the last sign that is no blank ends, among the first n -/
def nbE (ch en : Nat → Nat) : Nat → Nat
  | 0 => 0
  | n + 1 => if ch n = 32 then nbE ch en n else en n
theorem wfl_loc {ch ch' bk bk' : Nat → Nat} : ∀ n, (∀ i, i < n → ch' i = ch i ∧ bk' i = bk i) → wfl ch' bk' n = wfl ch bk n := by
  intro n
  induction n with
  | zero => intro _; rfl
  | succ n ih =>
    intro h
    have e := ih (fun i hi => h i (by omega))
    unfold wfl
    rw [e, (h n (by omega)).1, (h n (by omega)).2]
    by_cases h0 : n = 0
    · subst h0; rfl
    · rw [(h (n - 1) (by omega)).1]
theorem nbE_loc {ch ch' en en' : Nat → Nat} : ∀ n, (∀ i, i < n → ch' i = ch i ∧ en' i = en i) → nbE ch' en' n = nbE ch en n := by
  intro n
  induction n with
  | zero => intro _; rfl
  | succ n ih =>
    intro h
    unfold nbE
    rw [ih (fun i hi => h i (by omega)), (h n (by omega)).1, (h n (by omega)).2]
theorem any_congr {r : Nat} {f g : Nat → Bool} (h : ∀ i, i < r → f i = g i) : (List.range r).any f = (List.range r).any g := by
  rw [Bool.eq_iff_iff, List.any_eq_true, List.any_eq_true]
  constructor
  · intro ⟨i, hi, q⟩; exact ⟨i, hi, by rw [← h i (List.mem_range.mp hi)]; exact q⟩
  · intro ⟨i, hi, q⟩; exact ⟨i, hi, by rw [h i (List.mem_range.mp hi)]; exact q⟩
theorem any_iff {r : Nat} {f : Nat → Bool} : (List.range r).any f = true ↔ ∃ i, i < r ∧ f i = true := by
  rw [List.any_eq_true]
  constructor
  · intro ⟨i, hi, q⟩; exact ⟨i, List.mem_range.mp hi, q⟩
  · intro ⟨i, hi, q⟩; exact ⟨i, List.mem_range.mpr hi, q⟩
theorem brW_iff {bk : Nat → Nat} {F G : List Nat} {k : Nat} : brW bk F G k = true ↔ ∃ s, G.getD k 0 < s ∧ s ≤ F.getD (k + 1) 0 ∧ bk s = 1 := by
  unfold brW
  rw [any_iff]
  constructor
  · intro ⟨i, hi, q⟩; exact ⟨_, by omega, by omega, of_decide_eq_true q⟩
  · intro ⟨s, h1, h2, h3⟩; exact ⟨s - G.getD k 0 - 1, by omega, decide_eq_true (by rw [show G.getD k 0 + 1 + (s - G.getD k 0 - 1) = s by omega]; exact h3)⟩
theorem stW_iff {ch : Nat → Nat} {F G : List Nat} {k : Nat} : stW ch F G k = true ↔ ∃ s, G.getD k 0 < s ∧ s < F.getD (k + 1) 0 ∧ spB (ch s) = true ∧ ch (s + 1) = 32 := by
  unfold stW
  rw [any_iff]
  constructor
  · intro ⟨i, hi, q⟩
    simp only [Bool.and_eq_true, decide_eq_true_eq] at q
    exact ⟨_, by omega, by omega, q.1, q.2⟩
  · intro ⟨s, h1, h2, h3, h4⟩
    refine ⟨s - G.getD k 0 - 1, by omega, ?_⟩
    rw [show G.getD k 0 + 1 + (s - G.getD k 0 - 1) = s by omega]
    simp only [Bool.and_eq_true, decide_eq_true_eq]
    exact ⟨h3, h4⟩
theorem brW_loc {bk bk' : Nat → Nat} {F G F' G' : List Nat} {k n : Nat} (hF : F'.getD (k + 1) 0 = F.getD (k + 1) 0) (hG : G'.getD k 0 = G.getD k 0) (hn : F.getD (k + 1) 0 < n) (h : ∀ i, i < n → bk' i = bk i) : brW bk' F' G' k = brW bk F G k := by
  unfold brW
  rw [hF, hG]
  exact any_congr (fun i hi => by rw [h _ (by omega)])
theorem stW_loc {ch ch' : Nat → Nat} {F G F' G' : List Nat} {k n : Nat} (hF : F'.getD (k + 1) 0 = F.getD (k + 1) 0) (hG : G'.getD k 0 = G.getD k 0) (hn : F.getD (k + 1) 0 < n) (h : ∀ i, i < n → ch' i = ch i) : stW ch' F' G' k = stW ch F G k := by
  unfold stW
  rw [hF, hG]
  exact any_congr (fun i hi => by rw [h _ (by omega), h _ (by omega)])
theorem wpl_loc {bk bk' : Nat → Nat} {F G F' G' : List Nat} {n : Nat} (h : ∀ i, i < n → bk' i = bk i) : ∀ k, (∀ j, j < k → F'.getD (j + 1) 0 = F.getD (j + 1) 0 ∧ G'.getD j 0 = G.getD j 0 ∧ F.getD (j + 1) 0 < n) → wpl bk' F' G' k = wpl bk F G k := by
  intro k
  induction k with
  | zero => intro _; rfl
  | succ k ih =>
    intro q
    unfold wpl
    rw [ih (fun j hj => q j (by omega)), brW_loc (q k (by omega)).1 (q k (by omega)).2.1 (q k (by omega)).2.2 h]
theorem swl_loc {ch ch' bk bk' : Nat → Nat} {F G F' G' : List Nat} {n : Nat} (h : ∀ i, i < n → ch' i = ch i ∧ bk' i = bk i) : ∀ k, (∀ j, j + 1 < k → F'.getD (j + 1) 0 = F.getD (j + 1) 0 ∧ G'.getD j 0 = G.getD j 0 ∧ F.getD (j + 1) 0 < n) → swl ch' bk' F' G' k = swl ch bk F G k := by
  intro k
  induction k with
  | zero => intro _; rfl
  | succ k ih =>
    intro q
    unfold swl
    rw [ih (fun j hj => q j (by omega))]
    by_cases h0 : k = 0
    · rw [if_pos (Or.inl h0), if_pos (Or.inl h0)]
    · obtain ⟨q1, q2, q3⟩ := q (k - 1) (by omega)
      rw [brW_loc q1 q2 q3 (fun i hi => (h i hi).2), stW_loc q1 q2 q3 (fun i hi => (h i hi).1)]
theorem gA {l m : List Nat} {i : Nat} (h : i < l.length) : (l ++ m).getD i 0 = l.getD i 0 := by
  simp [List.getD, List.getElem?_append, h]
theorem gB {l : List Nat} {x i : Nat} (h : i = l.length) : (l ++ [x]).getD i 0 = x := by
  subst h
  simp [List.getD]
theorem gS {l : List Nat} {i x : Nat} (h : i < l.length) : (l.set i x).getD i 0 = x := by
  simp [List.getD, h]
theorem gN {l : List Nat} {i j x : Nat} (h : i ≠ j) : (l.set i x).getD j 0 = l.getD j 0 := by
  simp [List.getD, List.getElem?_set, h]
theorem gC (l : List Nat) (x : Nat) : (fun i => (l ++ [x]).getD i 0) = va_up (fun i => l.getD i 0) l.length x := by
  funext i
  by_cases h : i = l.length
  · subst h; rw [vs, gB rfl]
  · rw [vn _ _ h]
    by_cases h2 : i < l.length
    · rw [gA h2]
    · rw [gDn (by simp; omega), gDn (by omega)]
theorem gC0 (l : List Nat) : (fun i => (l ++ [0]).getD i 0) = fun i => l.getD i 0 := by
  rw [gC]
  funext i
  by_cases h : i = l.length
  · subst h; rw [vs, gDn (Nat.le_refl _)]
  · rw [vn _ _ h]
theorem gCs {l : List Nat} {k x : Nat} (h : k < l.length) : (fun i => (l.set k x).getD i 0) = va_up (fun i => l.getD i 0) k x := by
  funext i
  by_cases q : i = k
  · subst q; rw [vs, gS h]
  · rw [vn _ _ q, gN (fun e => q e.symm)]
def InvB (T : CT) (n : Nat) (ch at' en : Nat → Nat) (F G : List Nat) (k : Nat) : Prop := F.getD k 0 ≤ G.getD k 0 ∧ G.getD k 0 < n ∧ (T.1 1).getD k 0 = at' (F.getD k 0) ∧ (T.1 2).getD k 0 = en (G.getD k 0) ∧ (T.1 7).getD k 0 = G.getD k 0 - F.getD k 0 + 1 ∧ (T.1 6).getD k 0 + (T.1 7).getD k 0 ≤ (T.1 5).length ∧ (∀ i, i < (T.1 7).getD k 0 → (T.1 5).getD ((T.1 6).getD k 0 + i) 0 = lo (ch (F.getD k 0 + i))) ∧ (∀ i, F.getD k 0 ≤ i → i ≤ G.getD k 0 → isWd (ch i) = true)
/-- what class and signs have in common while a text is read -/
def InvT (T : CT) (n : Nat) (ch at' en bk : Nat → Nat) (F G : List Nat) : Prop :=
  F.length = (T.1 1).length ∧ G.length = (T.1 1).length ∧
  (∀ k, k < (T.1 1).length → InvB T n ch at' en F G k) ∧
  (∀ k, k + 1 < (T.1 1).length → G.getD k 0 < F.getD (k + 1) 0) ∧
  (T.2 11 = 1 ↔ (n ≠ 0 ∧ isWd (ch (n - 1)) = true ∧ bk n = 0)) ∧
  (n ≠ 0 → isWd (ch (n - 1)) = true → (T.1 1).length ≠ 0 ∧ G.getD ((T.1 1).length - 1) 0 = n - 1) ∧
  ((T.1 1).length ≠ 0 → (T.1 6).getD ((T.1 1).length - 1) 0 + (T.1 7).getD ((T.1 1).length - 1) 0 = (T.1 5).length) ∧
  (∀ k, k < (T.1 1).length → (T.1 3).getD k 0 = wpl bk F G k) ∧
  (T.1 8 = swl ch bk F G (T.1 1).length) ∧
  (∀ k, k < (T.1 1).length → (T.1 4).getD k 0 = (swl ch bk F G (k + 1)).length - 1) ∧
  ((T.1 1).length ≠ 0 → ((T.2 12 = 1 ↔ ∃ s, G.getD ((T.1 1).length - 1) 0 < s ∧ s ≤ n ∧ bk s = 1) ∧ (T.2 13 = 1 ↔ ∃ s, G.getD ((T.1 1).length - 1) 0 < s ∧ s + 1 < n ∧ spB (ch s) = true ∧ ch (s + 1) = 32))) ∧
  (T.2 14 = 1 ↔ (n ≠ 0 ∧ spB (ch (n - 1)) = true)) ∧
  T.2 15 = nbE ch en n ∧
  (∀ j, j < (T.1 9).length → (T.1 9).getD j 0 = nbE ch en (F.getD ((T.1 8).getD (j + 1) 0) 0)) ∧
  (∀ i, n < i → bk i = 0) ∧
  (∀ k, k < (T.1 8).length → (T.1 8).getD k 0 < (T.1 1).length)
