/-! GETTERS: places -/
/-- places of marks and joints -/
def bgn (mk jd : Nat → Bool) (v : Nat) : Bool := mk v && !(decide (v ≠ 0) && jd (v - 1))
def JDM (mk jd : Nat → Bool) (lk : Nat) : Prop := (∀ v, jd v = true → mk v = true ∧ mk (v + 1) = true) ∧ ∀ v, mk v = true → v < lk
theorem filt_lt {p : Nat → Bool} {n : Nat} {x : Nat} (h : x ∈ (List.range n).filter p) : x < n ∧ p x = true := by
  obtain ⟨h1, h2⟩ := List.mem_filter.mp h
  exact ⟨List.mem_range.mp h1, h2⟩
theorem places_inv {mk jd : Nat → Bool} {lk : Nat} (H : JDM mk jd lk) : ∀ n, (pfA mk jd n).length = (plA mk jd n).length + (if n ≠ 0 ∧ jd (n - 1) = true then 1 else 0) ∧ (∀ k, k < (plA mk jd n).length → (pfA mk jd n).getD k 0 ≤ (plA mk jd n).getD k 0 ∧ (plA mk jd n).getD k 0 < n ∧ (∀ i, (pfA mk jd n).getD k 0 ≤ i → i < (plA mk jd n).getD k 0 → jd i = true) ∧ jd ((plA mk jd n).getD k 0) = false ∧ (k + 1 < (pfA mk jd n).length → (plA mk jd n).getD k 0 < (pfA mk jd n).getD (k + 1) 0)) ∧ ((n ≠ 0 ∧ jd (n - 1) = true) → (pfA mk jd n).getD (plA mk jd n).length 0 < n ∧ ∀ i, (pfA mk jd n).getD (plA mk jd n).length 0 ≤ i → i < n → jd i = true) := by
  intro n
  induction n with
  | zero => exact ⟨rfl, (fun k hk => by cases hk), fun h => absurd rfl h.1⟩
  | succ n ih =>
    obtain ⟨i1, i2, i3⟩ := ih
    have e1 : pfA mk jd (n + 1) = if bgn mk jd n = true then pfA mk jd n ++ [n] else pfA mk jd n := filt_succ _ _
    have e2 : plA mk jd (n + 1) = if (mk n && !jd n) = true then plA mk jd n ++ [n] else plA mk jd n := filt_succ _ _
    rw [show n + 1 - 1 = n by omega]
    by_cases op : n ≠ 0 ∧ jd (n - 1) = true
    · -- a place is open
      have hm : mk n = true := by
        have := (H.1 _ op.2).2
        rw [show n - 1 + 1 = n by omega] at this
        exact this
      have hb : bgn mk jd n = false := by unfold bgn; rw [op.2, decide_eq_true op.1]; simp
      rw [hb, if_neg (by decide)] at e1
      rw [if_pos op] at i1
      obtain ⟨o1, o2⟩ := i3 op
      rw [e1]
      by_cases hj : jd n = true
      · rw [hj, hm, if_neg (by decide)] at e2
        rw [e2, if_pos ⟨by omega, hj⟩]
        refine ⟨i1, fun k hk => ?_, fun _ => ⟨by omega, fun i h1 h2 => ?_⟩⟩
        · obtain ⟨k1, k2, k3, k4, k5⟩ := i2 k hk
          exact ⟨k1, by omega, k3, k4, k5⟩
        · by_cases c : i = n
          · rw [c]; exact hj
          · exact o2 i h1 (by omega)
      · have hj : jd n = false := by simpa using hj
        rw [hj, hm, if_pos (by rfl)] at e2
        rw [e2, if_neg (fun q => by rw [hj] at q; exact absurd q.2 (by decide)), List.length_append]
        refine ⟨by rw [i1]; rfl, fun k hk => ?_, fun q => by rw [hj] at q; exact absurd q.2 (by decide)⟩
        simp only [List.length_cons, List.length_nil] at hk
        by_cases c : k < (plA mk jd n).length
        · rw [getD_l c]
          obtain ⟨k1, k2, k3, k4, k5⟩ := i2 k c
          exact ⟨k1, by omega, k3, k4, k5⟩
        · have : k = (plA mk jd n).length := by omega
          subst this
          rw [getD_r rfl]
          exact ⟨by omega, by omega, fun i h1 h2 => o2 i h1 h2, hj, fun q => by omega⟩
    · rw [if_neg op] at i1
      have i1 : (pfA mk jd n).length = (plA mk jd n).length := i1
      have hb : bgn mk jd n = mk n := by
        unfold bgn
        by_cases c : n = 0
        · subst c; simp
        · have : jd (n - 1) = false := by
            cases hq : jd (n - 1)
            · rfl
            · exact absurd ⟨c, hq⟩ op
          rw [this]; simp
      rw [hb] at e1
      by_cases hm : mk n = true
      · rw [if_pos hm] at e1
        rw [e1, List.length_append]
        by_cases hj : jd n = true
        · rw [hj, hm, if_neg (by decide)] at e2
          rw [e2, if_pos ⟨by omega, hj⟩]
          refine ⟨by rw [i1]; rfl, fun k hk => ?_, fun _ => ?_⟩
          · obtain ⟨k1, k2, k3, k4, k5⟩ := i2 k hk
            rw [getD_l (by omega)]
            refine ⟨k1, by omega, k3, k4, fun q => ?_⟩
            by_cases c : k + 1 < (pfA mk jd n).length
            · rw [getD_l c]; exact k5 c
            · rw [getD_r (by simp only [List.length_cons, List.length_nil] at q; omega)]; exact k2
          · rw [getD_r i1.symm]
            exact ⟨by omega, fun i h1 h2 => by rw [show i = n by omega]; exact hj⟩
        · have hj : jd n = false := by simpa using hj
          rw [hj, hm, if_pos (by rfl)] at e2
          rw [e2, if_neg (fun q => by rw [hj] at q; exact absurd q.2 (by decide)), List.length_append]
          refine ⟨by rw [i1]; rfl, fun k hk => ?_, fun q => by rw [hj] at q; exact absurd q.2 (by decide)⟩
          simp only [List.length_cons, List.length_nil] at hk
          by_cases c : k < (plA mk jd n).length
          · obtain ⟨k1, k2, k3, k4, k5⟩ := i2 k c
            rw [getD_l c, getD_l (by omega)]
            refine ⟨k1, by omega, k3, k4, fun q => ?_⟩
            by_cases c2 : k + 1 < (pfA mk jd n).length
            · rw [getD_l c2]; exact k5 c2
            · rw [getD_r (by simp only [List.length_cons, List.length_nil] at q; omega)]; exact k2
          · have hk' : k = (plA mk jd n).length := by omega
            rw [getD_r hk', getD_r (by omega)]
            exact ⟨by omega, by omega, fun i h1 h2 => by omega, hj, fun q => by simp only [List.length_cons, List.length_nil] at q; omega⟩
      · have hj : jd n = false := by
          cases hq : jd n
          · rfl
          · exact absurd (H.1 n hq).1 hm
        have hm' : mk n = false := by simpa using hm
        rw [if_neg hm] at e1
        rw [hm', if_neg (by simp)] at e2
        rw [e1, e2, if_neg (fun q => by rw [hj] at q; exact absurd q.2 (by decide))]
        refine ⟨i1, fun k hk => ?_, fun q => by rw [hj] at q; exact absurd q.2 (by decide)⟩
        obtain ⟨k1, k2, k3, k4, k5⟩ := i2 k hk
        exact ⟨k1, by omega, k3, k4, k5⟩
theorem places {mk jd : Nat → Bool} {lk : Nat} (H : JDM mk jd lk) : (plA mk jd lk).length = (pfA mk jd lk).length ∧ ∀ k, k < (pfA mk jd lk).length → bgn mk jd ((pfA mk jd lk).getD k 0) = true ∧ (pfA mk jd lk).getD k 0 ≤ (plA mk jd lk).getD k 0 ∧ (plA mk jd lk).getD k 0 < lk ∧ (∀ i, (pfA mk jd lk).getD k 0 ≤ i → i < (plA mk jd lk).getD k 0 → jd i = true) ∧ jd ((plA mk jd lk).getD k 0) = false ∧ (k + 1 < (pfA mk jd lk).length → (plA mk jd lk).getD k 0 < (pfA mk jd lk).getD (k + 1) 0) := by
  obtain ⟨i1, i2, _⟩ := places_inv H lk
  have no : ¬ (lk ≠ 0 ∧ jd (lk - 1) = true) := fun q => by
    have h1 := (H.1 _ q.2).2
    have h2 := H.2 _ h1
    omega
  rw [if_neg no] at i1
  have i1 : (pfA mk jd lk).length = (plA mk jd lk).length := i1
  refine ⟨i1.symm, fun k hk => ?_⟩
  obtain ⟨k1, k2, k3, k4, k5⟩ := i2 k (by omega)
  refine ⟨?_, k1, k2, k3, k4, k5⟩
  rw [gD hk]
  exact (filt_lt (List.getElem_mem hk)).2
/-- the k-th beginning -/
theorem filt_split {p : Nat → Bool} {n : Nat} : ∀ {m}, n ≤ m → ∃ l, (List.range m).filter p = (List.range n).filter p ++ l := by
  intro m h
  induction m with
  | zero => exact ⟨[], by rw [show n = 0 by omega]; rfl⟩
  | succ m ih =>
    by_cases c : n = m + 1
    · exact ⟨[], by rw [c, List.append_nil]⟩
    · obtain ⟨l, hl⟩ := ih (by omega)
      rw [filt_succ, hl]
      split
      · exact ⟨l ++ [m], by rw [List.append_assoc]⟩
      · exact ⟨l, rfl⟩
theorem filt_at {p : Nat → Bool} {w n : Nat} (hp : p w = true) (hw : w < n) : ((List.range n).filter p).getD ((List.range w).filter p).length 0 = w ∧ ((List.range w).filter p).length < ((List.range n).filter p).length := by
  obtain ⟨l, hl⟩ := filt_split (p := p) (n := w + 1) (m := n) hw
  rw [hl, filt_succ, if_pos hp]
  refine ⟨?_, by simp⟩
  rw [List.append_assoc]
  simp [List.getD]
theorem filt_end {p : Nat → Bool} {lk W : Nat} (hp : ∀ v, p v = true → v < lk) (h : lk ≤ W) : (List.range W).filter p = (List.range lk).filter p := by
  induction W with
  | zero => rw [show lk = 0 by omega]
  | succ W ih =>
    by_cases c : lk = W + 1
    · rw [c]
    · rw [filt_succ, if_neg (fun q => by have := hp W q; omega), ih (by omega)]
/-- joined words are marked -/
theorem jd_mk {T Q : CT} {li : Nat → Bool} {lk : Nat} (hm : ∀ w, w + 1 < (T.1 1).length → plT T w + 1 ≤ plT T (w + 1)) (hlk : lk ≤ (T.1 1).length) (qf : ∀ l, l < (Q.1 6).length → QF Q l) : JDM (mkA T Q li lk (Q.1 6).length) (jdA T Q li lk (Q.1 6).length) lk := by
  refine ⟨fun v hv => ?_, fun v hv => ?_⟩
  · obtain ⟨l, hl, h⟩ := List.any_eq_true.mp hv
    have hl := List.mem_range.mp hl
    simp only [Bool.and_eq_true] at h
    obtain ⟨hli, h⟩ := h
    obtain ⟨w, hw, h⟩ := List.any_eq_true.mp h
    have hw := List.mem_range.mp hw
    simp only [Bool.and_eq_true, decide_eq_true_eq] at h
    obtain ⟨hy, h1, h2⟩ := h
    obtain ⟨f1, f2, f3, f4, f5, _⟩ := qf l hl
    have r0 : (Q.1 6).getD l 0 = 0 := by
      unfold jnL at h2
      split at h2
      · assumption
      · omega
    have hjn : jnL Q l = (Q.1 5).getD l 0 - 1 := by unfold jnL; rw [if_pos r0]
    rw [hjn] at h2
    have hs : (eaF T Q l lk w ((Q.1 5).getD l 0 - 1)).isSome = true := by
      have : (fitL T Q l w 0 && (ear (fitL T Q l) (leF T Q l lk w) w ((Q.1 5).getD l 0 - 1)).isSome) = true := hy
      simp only [Bool.and_eq_true] at this
      exact this.2
    have row := ear_row (l := l) hm hlk hw r0 f4 hs
    have la := leF_lt (T := T) (Q := Q) (l := l) hw
    -- every word of the way is in it
    have one : ∀ i, i < (Q.1 5).getD l 0 → mkA T Q li lk (Q.1 6).length (w + i) = true := by
      intro i hi
      have le : w + i < lk ∧ inW T Q l lk w (w + i) = true := by
        rw [inW_eq]
        by_cases i0 : i = 0
        · subst i0
          exact ⟨hw, by simp⟩
        · have hsi : (ear (fitL T Q l) (leF T Q l lk w) w (i - 1 + 1)).isSome = true := ear_pre (show i - 1 + 1 ≤ (Q.1 5).getD l 0 - 1 by omega) hs
          obtain ⟨a, x, e1, e2, e3, e4, e5, e6⟩ := ear_at hsi
          have ri := row i hi
          rw [show i - 1 + 1 = i by omega] at e2 e5
          have e2' : eaF T Q l lk w i = some x := e2
          rw [ri] at e2'
          cases e2'
          obtain ⟨y, y1, y2, y3, y4⟩ := lat_ge hs ((Q.1 5).getD l 0 - i) (by omega) (by omega)
          rw [show (Q.1 5).getD l 0 - ((Q.1 5).getD l 0 - i) = i by omega] at y1
          have y1' : eaF T Q l lk w i = some y := y1
          rw [ri] at y1'
          cases y1'
          refine ⟨by omega, ?_⟩
          simp only [Bool.or_eq_true]
          refine Or.inr (List.any_eq_true.mpr ⟨i - 1, List.mem_range.mpr (by omega), ?_⟩)
          unfold stF
          rw [show i - 1 + 1 = i by omega, ri]
          have y2 : w + i ≤ laF T Q l lk w ((Q.1 5).getD l 0 - i) := y2
          rw [e5, decide_eq_true y2]
          simp
      unfold mkA
      rw [decide_eq_true le.1, Bool.true_and]
      refine List.any_eq_true.mpr ⟨l, List.mem_range.mpr hl, ?_⟩
      rw [hli, Bool.true_and]
      exact List.any_eq_true.mpr ⟨w, List.mem_range.mpr hw, by rw [hy, le.2]; rfl⟩
    have o1 := one (v - w) (by omega)
    have o2 := one (v - w + 1) (by omega)
    rw [show w + (v - w) = v by omega] at o1
    rw [show w + (v - w + 1) = v + 1 by omega] at o2
    exact ⟨o1, o2⟩
  · unfold mkA at hv
    simp only [Bool.and_eq_true, decide_eq_true_eq] at hv
    exact hv.1
