/-! EVALUATION: ways -/
def prv (p : Nat → Bool) (hi lo0 : Nat) : Nat := hi - lead (fun i => !p (hi - i)) (hi - lo0)
theorem prv_ge {p : Nat → Bool} {hi lo0 x : Nat} (h1 : lo0 < x) (h2 : x ≤ hi) (h3 : p x = true) : x ≤ prv p hi lo0 ∧ p (prv p hi lo0) = true ∧ prv p hi lo0 ≤ hi := by
  unfold prv
  have le : lead (fun i => !p (hi - i)) (hi - lo0) ≤ hi - x := by
    rcases Nat.lt_or_ge (hi - x) (lead (fun i => !p (hi - i)) (hi - lo0)) with q | q
    · have := lead_at q
      simp only [show hi - (hi - x) = x by omega, h3] at this
      cases this
    · exact q
  refine ⟨by omega, ?_, by omega⟩
  have := lead_end (p := fun i => !p (hi - i)) (n := hi - lo0) (by omega)
  simpa using this
def lastW (pl : Nat → Nat) (lk w reach : Nat) : Nat := w + lead (fun i => decide (pl (w + 1 + i) ≤ pl w + reach)) (lk - 1 - w)
def nxt (p : Nat → Bool) (a hi : Nat) : Option Nat := if a + lead (fun i => !p (a + i)) (hi + 1 - a) ≤ hi then some (a + lead (fun i => !p (a + i)) (hi + 1 - a)) else none
theorem nxt_some {p : Nat → Bool} {a hi x : Nat} (h : nxt p a hi = some x) : a ≤ x ∧ x ≤ hi ∧ p x = true ∧ ∀ y, a ≤ y → y < x → p y = false := by
  unfold nxt at h
  split at h
  · rename_i q
    cases h
    refine ⟨by omega, q, ?_, fun y h1 h2 => ?_⟩
    · have := lead_end (p := fun i => !p (a + i)) (n := hi + 1 - a) (by omega)
      simpa using this
    · have := lead_at (p := fun i => !p (a + i)) (n := hi + 1 - a) (i := y - a) (by omega)
      simp only [show a + (y - a) = y by omega] at this
      simpa using this
  · cases h
theorem nxt_none {p : Nat → Bool} {a hi : Nat} (h : nxt p a hi = none) : ∀ y, a ≤ y → y ≤ hi → p y = false := by
  unfold nxt at h
  split at h
  · cases h
  · rename_i q
    intro y h1 h2
    have := lead_at (p := fun i => !p (a + i)) (n := hi + 1 - a) (i := y - a) (by omega)
    simp only [show a + (y - a) = y by omega] at this
    simpa using this
theorem nxt_eq {p : Nat → Bool} {a hi x : Nat} (h1 : a ≤ x) (h2 : x ≤ hi) (h3 : p x = true) (h4 : ∀ y, a ≤ y → y < x → p y = false) : nxt p a hi = some x := by
  cases h : nxt p a hi with
  | none => rw [nxt_none h x h1 h2] at h3; cases h3
  | some y =>
    obtain ⟨a1, a2, a3, a4⟩ := nxt_some h
    rcases Nat.lt_trichotomy x y with q | q | q
    · rw [a4 x h1 q] at h3; cases h3
    · rw [q]
    · rw [h4 y a1 q] at a3; cases a3
def ear (fit : Nat → Nat → Bool) (last w : Nat) : Nat → Option Nat
  | 0 => some w
  | i + 1 => (ear fit last w i).bind fun v => nxt (fun x => fit x (i + 1)) (v + 1) last
def lat (fit : Nat → Nat → Bool) (last w n : Nat) : Nat → Nat
  | 0 => last + 1
  | r + 1 => prv (fun x => fit x (n - 1 - r)) (lat fit last w n r - 1) w
def wayF (fit : Nat → Nat → Bool) (last w n : Nat) : Bool := fit w 0 && (ear fit last w (n - 1)).isSome
def inWF (fit : Nat → Nat → Bool) (last w n v : Nat) : Bool := decide (v = w) || (List.range (n - 1)).any (fun i => decide ((ear fit last w (i + 1)).getD 0 ≤ v) && decide (v ≤ lat fit last w n (n - (i + 1))) && fit v (i + 1))
theorem ear_pre {fit : Nat → Nat → Bool} {last w : Nat} : ∀ {n i : Nat}, i ≤ n → (ear fit last w n).isSome = true → (ear fit last w i).isSome = true := by
  intro n
  induction n with
  | zero => intro i hi h; rw [Nat.le_zero.mp hi]; exact h
  | succ n ih =>
    intro i hi h
    by_cases e : i = n + 1
    · rw [e]; exact h
    · refine ih (by omega) ?_
      unfold ear at h
      cases hq : ear fit last w n with
      | none => rw [hq] at h; cases h
      | some v => rfl
theorem ear_at {fit : Nat → Nat → Bool} {last w i : Nat} (h : (ear fit last w (i + 1)).isSome = true) : ∃ v x, ear fit last w i = some v ∧ ear fit last w (i + 1) = some x ∧ v < x ∧ x ≤ last ∧ fit x (i + 1) = true ∧ ∀ y, v < y → y < x → fit y (i + 1) = false := by
  unfold ear at h
  cases hq : ear fit last w i with
  | none => rw [hq] at h; cases h
  | some v =>
    rw [hq] at h
    simp only [Option.bind_some] at h
    cases hn : nxt (fun x => fit x (i + 1)) (v + 1) last with
    | none => rw [hn] at h; cases h
    | some x =>
      obtain ⟨a1, a2, a3, a4⟩ := nxt_some hn
      exact ⟨v, x, rfl, by unfold ear; rw [hq]; exact hn, by omega, a2, a3, fun y h1 h2 => a4 y (by omega) h2⟩
theorem ear_ge {fit : Nat → Nat → Bool} {last w : Nat} : ∀ {i x : Nat}, ear fit last w i = some x → w + i ≤ x ∧ (1 ≤ i → x ≤ last) := by
  intro i
  induction i with
  | zero => intro x h; cases h; exact ⟨by omega, fun q => by omega⟩
  | succ i ih =>
    intro x h
    obtain ⟨v, x', e1, e2, e3, e4, e5, e6⟩ := ear_at (fit := fit) (last := last) (w := w) (i := i) (by rw [h]; rfl)
    rw [h] at e2
    cases e2
    have := (ih e1).1
    exact ⟨by omega, fun _ => e4⟩
/-- the latest ones stand behind the earliest ones -/
theorem lat_ge {fit : Nat → Nat → Bool} {last w n : Nat} (h : (ear fit last w (n - 1)).isSome = true) : ∀ r, r < n → 1 ≤ r → ∃ x, ear fit last w (n - r) = some x ∧ x ≤ lat fit last w n r ∧ lat fit last w n r ≤ last ∧ fit (lat fit last w n r) (n - r) = true := by
  intro r
  induction r with
  | zero => intro _ q; omega
  | succ r ih =>
    intro hr _
    have hs := ear_pre (i := n - (r + 1)) (by omega) h
    obtain ⟨v, x, e1, e2, e3, e4, e5, e6⟩ := ear_at (fit := fit) (last := last) (w := w) (i := n - (r + 1) - 1) (by rw [show n - (r + 1) - 1 + 1 = n - (r + 1) by omega]; exact hs)
    rw [show n - (r + 1) - 1 + 1 = n - (r + 1) by omega] at e2 e5
    have g1 := (ear_ge e1).1
    have bound : x ≤ lat fit last w n r - 1 ∧ lat fit last w n r - 1 ≤ last := by
      by_cases r0 : r = 0
      · subst r0
        show x ≤ last + 1 - 1 ∧ last + 1 - 1 ≤ last
        omega
      · obtain ⟨y, f1, f2, f3, f4⟩ := ih (by omega) (by omega)
        have hs2 := ear_pre (i := n - r) (by omega) h
        obtain ⟨v2, x2, g1, g2, g3, g4, g5, g6⟩ := ear_at (fit := fit) (last := last) (w := w) (i := n - (r + 1)) (by rw [show n - (r + 1) + 1 = n - r by omega]; exact hs2)
        rw [show n - (r + 1) + 1 = n - r by omega] at g2
        rw [f1] at g2
        cases g2
        rw [e2] at g1
        cases g1
        omega
    have := prv_ge (p := fun x => fit x (n - 1 - r)) (hi := lat fit last w n r - 1) (lo0 := w) (x := x) (by omega) bound.1 (by rw [show n - 1 - r = n - (r + 1) by omega]; exact e5)
    refine ⟨x, e2, this.1, ?_, ?_⟩
    · show prv _ _ _ ≤ last
      omega
    · have h2 := this.2.1
      rw [show n - 1 - r = n - (r + 1) by omega] at h2
      show fit (prv (fun x => fit x (n - 1 - r)) (lat fit last w n r - 1) w) (n - (r + 1)) = true
      rw [show n - 1 - r = n - (r + 1) by omega]
      exact h2
def plT (T : CT) (w : Nat) : Nat := (T.1 3).getD w 0
def fitL (T Q : CT) (l v i : Nat) : Bool := fitB T Q v ((Q.1 4).getD l 0 + i)
/-- a leaf of a query -/
def QF (Q : CT) (l : Nat) : Prop := l < (Q.1 4).length ∧ l < (Q.1 5).length ∧ l < (Q.1 6).length ∧ 1 ≤ (Q.1 5).getD l 0 ∧ (Q.1 5).getD l 0 ≤ 6 ∧ (Q.1 6).getD l 0 ≤ 9 ∧ (∀ i, i < (Q.1 5).getD l 0 → QE Q ((Q.1 4).getD l 0 + i)) ∧ (Q.1 4).length ≤ 12 ∧ (Q.1 5).length ≤ 12 ∧ (Q.1 6).length ≤ 12
section
variable {L d : Nat} {z : zS} {T Q : CT} {t q l lk : Nat}
theorem or_bit {xs : List Nat} {w b : Nat} (hw : w < xs.length) (v j : Nat) : (((xs.set w (xs.getD w 0 ||| 2 ^ b)).getD v 0).testBit j) = ((xs.getD v 0).testBit j || (decide (v = w) && decide (j = b))) := by
  by_cases e : v = w
  · subst e
    have : (xs.set v (xs.getD v 0 ||| 2 ^ b)).getD v 0 = xs.getD v 0 ||| 2 ^ b := by simp [List.getD, hw]
    rw [this, Nat.testBit_or, Nat.testBit_two_pow]
    by_cases q : j = b
    · simp [q]
    · have : b ≠ j := fun e => q e.symm
      simp [q, this]
  · have : (xs.set w (xs.getD w 0 ||| 2 ^ b)).getD v 0 = xs.getD v 0 := by
      simp [List.getD, List.getElem?_set, Ne.symm e]
    rw [this]
    simp [e]
/-- the bits of the words that fit -/
def FB (T Q : CT) (l lk i w0 : Nat) (F : List Nat) : Prop := F.length = lk ∧ ∀ w, w < lk → ∀ j, (F.getD w 0).testBit j = (fitL T Q l w j && (decide (j < i) || (decide (j = i) && decide (w < w0))))
theorem x12 {M : CT} (h : RO z t q T Q) (tl : TL T) (ql : QL Q) (qf : QF Q l) (hlk : M.2 16 = lk) (h300 : lk ≤ 300) (tw : ∀ w, w < lk → TW T w) : ∃ F, FB T Q l lk ((Q.1 5).getD l 0) 0 F ∧ zden L (d + 5) 12 [.ref 4, .int (nI l)] (putM z M) = some (0, putM z (va_up M.1 6 F, M.2)) := by
  obtain ⟨f1, f2, f3, f4, f5, f6, f7, f8, f9, f10⟩ := qf
  have q1 := ql.2.1
  have qe0 := (f7 0 (by omega)).1
  have inner : ∀ (r w i : Nat) (F : List Nat), w + r = lk → i < (Q.1 5).getD l 0 → FB T Q l lk i w F → ∃ F', FB T Q l lk (i + 1) 0 F' ∧ xruns (O2 L) (zden L (d + 4)) 12 44 [.ref 4, .int (nI l), .int (nI ((Q.1 4).getD l 0)), .int (nI i), .int (nI w)] [] (putM z (va_up M.1 6 F, M.2)) = xruns (O2 L) (zden L (d + 4)) 12 26 [.ref 4, .int (nI l), .int (nI ((Q.1 4).getD l 0)), .int (nI (i + 1)), .int (nI lk)] [] (putM z (va_up M.1 6 F', M.2)) := by
    intro r
    induction r with
    | zero =>
      intro w i F hw hi hF
      refine ⟨F, ⟨hF.1, fun v hv j => ?_⟩, ?_⟩
      · rw [hF.2 v hv j]
        congr 1
        have : v < w := by omega
        by_cases a : j < i
        · have : j < i + 1 := by omega
          simp [a, this]
        · by_cases b : j = i
          · subst b; simp [this]
          · have : ¬ j < i + 1 := by omega
            have b2 : ¬ j = i + 1 ∨ True := Or.inr trivial
            simp [a, b, this]
      · rw [B12_44, X16r, Option.bind_some]
        show (if nI (M.2 16) ≤ nI w then _ else _) = _
        rw [hlk, iL (by omega) (by omega), if_pos (by omega), B12_81, nI_add, show w = lk by omega]
    | succ r ih =>
      intro w i F hw hi hF
      have wl : w < F.length := by rw [hF.1]; omega
      have e0 : xruns (O2 L) (zden L (d + 4)) 12 44 [.ref 4, .int (nI l), .int (nI ((Q.1 4).getD l 0)), .int (nI i), .int (nI w)] [] (putM z (va_up M.1 6 F, M.2)) = if fitL T Q l w i = true then xruns (O2 L) (zden L (d + 4)) 12 65 [.ref 4, .int (nI l), .int (nI ((Q.1 4).getD l 0)), .int (nI i), .int (nI w)] [] (putM z (va_up M.1 6 F, M.2)) else xruns (O2 L) (zden L (d + 4)) 12 75 [.ref 4, .int (nI l), .int (nI ((Q.1 4).getD l 0)), .int (nI i), .int (nI w)] [] (putM z (va_up M.1 6 F, M.2)) := by
        rw [B12_44, X16r, Option.bind_some]
        show (if nI (M.2 16) ≤ nI w then _ else _) = _
        rw [hlk, iL (by omega) (by omega), if_neg (by omega), B12_53, nI_add, x13 h tl ql (tw w (by omega)) (f7 i hi), Option.bind_some, iB]
        rfl
      have step : ∀ F1, FB T Q l lk i (w + 1) F1 → ∃ F', FB T Q l lk (i + 1) 0 F' ∧ xruns (O2 L) (zden L (d + 4)) 12 75 [.ref 4, .int (nI l), .int (nI ((Q.1 4).getD l 0)), .int (nI i), .int (nI w)] [] (putM z (va_up M.1 6 F1, M.2)) = xruns (O2 L) (zden L (d + 4)) 12 26 [.ref 4, .int (nI l), .int (nI ((Q.1 4).getD l 0)), .int (nI (i + 1)), .int (nI lk)] [] (putM z (va_up M.1 6 F', M.2)) := by
        intro F1 h1
        obtain ⟨F', g1, g2⟩ := ih (w + 1) i F1 (by omega) hi h1
        exact ⟨F', g1, by rw [B12_75, nI_add]; exact g2⟩
      rw [e0]
      by_cases c : fitL T Q l w i = true
      · rw [if_pos c, B12_65, J4_8, Option.bind_some, X6b (M := (va_up M.1 6 F, M.2)) (by show w < F.length; exact wl) (by show F.length ≤ 400; rw [hF.1]; omega) (by omega), Option.bind_some]
        have eM : putM z (va_up (va_up M.1 6 F, M.2).1 6 (((va_up M.1 6 F, M.2).1 6).set w (((va_up M.1 6 F, M.2).1 6).getD w 0 ||| 2 ^ i)), (va_up M.1 6 F, M.2).2) = putM z (va_up M.1 6 (F.set w (F.getD w 0 ||| 2 ^ i)), M.2) := by
          show putM z (va_up (va_up M.1 6 F) 6 ((va_up M.1 6 F 6).set w ((va_up M.1 6 F 6).getD w 0 ||| 2 ^ i)), M.2) = _
          rw [vs, vv]
        show ∃ F', _ ∧ xruns (O2 L) (zden L (d + 4)) 12 75 [.ref 4, .int (nI l), .int (nI ((Q.1 4).getD l 0)), .int (nI i), .int (nI w)] [] (putM z (va_up (va_up M.1 6 F, M.2).1 6 (((va_up M.1 6 F, M.2).1 6).set w (((va_up M.1 6 F, M.2).1 6).getD w 0 ||| 2 ^ i)), (va_up M.1 6 F, M.2).2)) = _
        rw [eM]
        refine step _ ⟨by rw [List.length_set, hF.1], fun v hv j => ?_⟩
        rw [or_bit wl, hF.2 v hv j]
        by_cases e : v = w
        · subst e
          by_cases b : j = i
          · subst b
            simp [c]
          · simp [b]
        · by_cases b : j = i
          · subst b
            have : decide (v < w + 1) = decide (v < w) := by
              by_cases q : v < w
              · have : v < w + 1 := by omega
                simp [q, this]
              · have : ¬ v < w + 1 := by omega
                simp [q, this]
            simp [e, this]
          · simp [b]
      · rw [if_neg c]
        refine step _ ⟨hF.1, fun v hv j => ?_⟩
        rw [hF.2 v hv j]
        by_cases b : j = i
        · subst b
          by_cases e : v = w
          · subst e
            have : fitL T Q l v j = false := by simpa using c
            simp [this]
          · have : decide (v < w + 1) = decide (v < w) := by
              by_cases q : v < w
              · have : v < w + 1 := by omega
                simp [q, this]
              · have : ¬ v < w + 1 := by omega
                simp [q, this]
            simp [this]
        · simp [b]
  have outer : ∀ (r i : Nat) (F : List Nat) (v4 : Value), i + r = (Q.1 5).getD l 0 → FB T Q l lk i 0 F → ∃ F', FB T Q l lk ((Q.1 5).getD l 0) 0 F' ∧ xruns (O2 L) (zden L (d + 4)) 12 26 [.ref 4, .int (nI l), .int (nI ((Q.1 4).getD l 0)), .int (nI i), v4] [] (putM z (va_up M.1 6 F, M.2)) = some (0, putM z (va_up M.1 6 F', M.2)) := by
    intro r
    induction r with
    | zero =>
      intro i F v4 hi hF
      have : i = (Q.1 5).getD l 0 := by omega
      subst this
      refine ⟨F, hF, ?_⟩
      rw [B12_26, XP1 h, Option.bind_some, R3_5 h.2.1, Option.bind_some, XQ5g h, Option.bind_some, zget_map f2 (by omega), iL (by omega) (by omega), if_pos (by omega), B12_87]
    | succ r ih =>
      intro i F v4 hi hF
      obtain ⟨F1, g1, g2⟩ := inner lk 0 i F (by omega) (by omega) hF
      obtain ⟨F2, k1, k2⟩ := ih (i + 1) F1 (.int (nI lk)) (by omega) g1
      refine ⟨F2, k1, ?_⟩
      rw [B12_26, XP1 h, Option.bind_some, R3_5 h.2.1, Option.bind_some, XQ5g h, Option.bind_some, zget_map f2 (by omega), iL (by omega) (by omega), if_neg (by omega), B12_41, g2, k2]
  obtain ⟨F, g1, g2⟩ := outer ((Q.1 5).getD l 0) 0 (List.replicate lk 0) .null (by omega) ⟨by simp, fun w hw j => by
    have : (List.replicate lk 0).getD w 0 = 0 := by simp [List.getD, List.getElem?_replicate, hw]
    rw [this, Nat.zero_testBit]
    simp⟩
  refine ⟨F, g1, ?_⟩
  rw [N12 _ _ ob4, B12_0, J4_8, Option.bind_some, X16r, Option.bind_some, hlk, X6f h300, Option.bind_some, XP1 h, Option.bind_some, R3_4 h.2.1, Option.bind_some, XQ4g h, Option.bind_some, zget_map f1 (by omega)]
  exact g2
theorem x18 {M : CT} {w n : Nat} (h : RO z t q T Q) (hlk : M.2 16 = lk) (h300 : lk ≤ 300) (l3 : lk ≤ (T.1 3).length) (l3' : (T.1 3).length ≤ 300) (hp : ∀ v, v < lk → plT T v ≤ 10000) (hw : w < lk) (hn : n ≤ 100) : zden L (d + 2) 18 [.ref 4, .int (nI w), .int (nI n)] (putM z M) = some (nI (lastW (plT T) lk w n), putM z M) := by
  have pw := hp w hw
  have key : ∀ (r i : Nat), i + r = lk - 1 - w → (∀ j, j < i → plT T (w + 1 + j) ≤ plT T w + n) → xruns (O2 L) (zden L (d + 1)) 18 17 [.ref 4, .int (nI w), .int (nI n), .int (nI (plT T w + n)), .int (nI (w + i))] [] (putM z M) = some (nI (lastW (plT T) lk w n), putM z M) := by
    intro r
    induction r with
    | zero =>
      intro i hi hj
      have : lead (fun i => decide (plT T (w + 1 + i) ≤ plT T w + n)) (lk - 1 - w) = i := lead_eq (by omega) (fun j q => decide_eq_true (hj j q)) (fun q => by omega)
      rw [B18_17, X16r, Option.bind_some, hlk, nI_add, iL (by omega) (by omega), if_pos (by omega), B18_52]
      unfold lastW
      rw [this]
    | succ r ih =>
      intro i hi hj
      have p1 := hp (w + i + 1) (by omega)
      rw [B18_17, X16r, Option.bind_some, hlk, nI_add, iL (by omega) (by omega), if_neg (by omega), B18_28, XP0 h, Option.bind_some, R6_3 h.1, Option.bind_some, nI_add, XT3g h, Option.bind_some, zget_map (by omega) (by omega)]
      show (if nI (plT T w + n) < nI (plT T (w + i + 1)) then _ else _) = _
      rw [iT (by omega) (by omega)]
      by_cases c : plT T (w + 1 + i) ≤ plT T w + n
      · rw [if_neg (by rw [show w + i + 1 = w + 1 + i by omega]; omega), B18_46, nI_add]
        exact ih (i + 1) (by omega) (fun j hj' => by
          by_cases q : j = i
          · rw [q]; exact c
          · exact hj j (by omega))
      · have : lead (fun i => decide (plT T (w + 1 + i) ≤ plT T w + n)) (lk - 1 - w) = i := lead_eq (by omega) (fun j q => decide_eq_true (hj j q)) (fun q => decide_eq_false c)
        rw [if_pos (by rw [show w + i + 1 = w + 1 + i by omega]; omega), B18_52]
        unfold lastW
        rw [this]
  rw [N18 _ _ _ ob4, B18_0, XP0 h, Option.bind_some, R6_3 h.1, Option.bind_some, XT3g h, Option.bind_some, zget_map (by omega) (by omega), nI_add]
  exact key (lk - 1 - w) 0 (by omega) (fun j q => by omega)
end
