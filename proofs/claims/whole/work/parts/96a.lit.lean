/-! PRINT: what is lit, and what is put out -/
def seg (bs : List Nat) (a n : Nat) : List Nat := (List.range n).map (fun i => bs.getD (a + i) 0)
theorem seg_succ (bs : List Nat) (a n : Nat) : seg bs a (n + 1) = seg bs a n ++ [bs.getD (a + n) 0] := (mapS _ n).symm
theorem seg_len (bs : List Nat) (a n : Nat) : (seg bs a n).length = n := by unfold seg; rw [List.length_map, List.length_range]
def opnN (bs l : List Nat) : Nat → List Nat
  | 0 => []
  | k + 1 => opnN bs l k ++ seg bs (l.getD k 0) (tagL bs (l.getD k 0))
def clsN (bs l : List Nat) : Nat → List Nat
  | 0 => []
  | k + 1 => clsN bs l k ++ (60 :: 47 :: seg bs (l.getD (l.length - 1 - k) 0 + 1) (tagL bs (l.getD (l.length - 1 - k) 0) - 1))
def mkB (b n : Bool) : List Nat := if b = n then [] else if n = true then [91] else [93]
def prvL (lt : Nat → Bool) (a n : Nat) : Bool := decide (n ≠ 0) && lt (a + n - 1)
def oB (bs : List Nat) (lt : Nat → Bool) (a : Nat) : Nat → List Nat
  | 0 => []
  | n + 1 => oB bs lt a n ++ (mkB (prvL lt a n) (lt (a + n)) ++ [bs.getD (a + n) 0])
def putO (bs : List Nat) (lt : Nat → Bool) (a b : Nat) : List Nat := opnN bs (stk bs a) (stk bs a).length ++ (oB bs lt a (b - a) ++ mkB (prvL lt a (b - a)) false) ++ clsN bs (stk bs b) (stk bs b).length
theorem mkB_len (b n : Bool) : (mkB b n).length ≤ 1 := by cases b <;> cases n <;> decide
theorem oB_len (bs : List Nat) (lt : Nat → Bool) (a : Nat) : ∀ n, (oB bs lt a n).length ≤ 2 * n := by
  intro n
  induction n with
  | zero => exact Nat.le_refl _
  | succ n ih =>
    unfold oB
    rw [List.length_append, List.length_append]
    have := mkB_len (prvL lt a n) (lt (a + n))
    simp only [List.length_cons, List.length_nil]
    omega
theorem opnN_len {bs l : List Nat} (h : ∀ o ∈ l, tagL bs o ≤ 10) : ∀ k, k ≤ l.length → (opnN bs l k).length ≤ 10 * k := by
  intro k
  induction k with
  | zero => intro _; exact Nat.le_refl _
  | succ k ih =>
    intro hk
    unfold opnN
    rw [List.length_append, seg_len, gD (show k < l.length by omega)]
    have := ih (by omega)
    have := h _ (List.getElem_mem (show k < l.length by omega))
    omega
theorem clsN_len {bs l : List Nat} (h : ∀ o ∈ l, tagL bs o ≤ 10) : ∀ k, k ≤ l.length → (clsN bs l k).length ≤ 11 * k := by
  intro k
  induction k with
  | zero => intro _; exact Nat.le_refl _
  | succ k ih =>
    intro hk
    unfold clsN
    rw [List.length_append, List.length_cons, List.length_cons, seg_len, gD (show l.length - 1 - k < l.length by omega)]
    have := ih (by omega)
    have := h _ (List.getElem_mem (show l.length - 1 - k < l.length by omega))
    omega
/-- sign s lies in place k -/
abbrev inP (K : KT) (pf pl : List Nat) (s k : Nat) : Prop := (wF K).getD (pf.getD k 0) 0 ≤ s ∧ s ≤ (wL K).getD (pl.getD k 0) 0
def own (K : KT) (pf pl : List Nat) (s : Nat) : Bool := (List.range pf.length).any (fun k => decide (inP K pf pl s k))
def litZ (K : KT) (pf pl : List Nat) (i : Nat) : Bool := (List.range (K 139).length).any (fun s => (decide (atK K s ≤ i) && decide (i < enK K s)) && own K pf pl s)
/-- places, as they lie in the words -/
def PLC (W : Nat) (pf pl : List Nat) : Prop := pl.length = pf.length ∧ ∀ k, k < pf.length → pf.getD k 0 ≤ pl.getD k 0 ∧ pl.getD k 0 < W ∧ (k + 1 < pf.length → pl.getD k 0 < pf.getD (k + 1) 0)
theorem own_iff {K : KT} {pf pl : List Nat} {s : Nat} : own K pf pl s = true ↔ ∃ k, k < pf.length ∧ inP K pf pl s k := by
  unfold own
  rw [List.any_eq_true]
  constructor
  · rintro ⟨k, h1, h2⟩
    exact ⟨k, List.mem_range.mp h1, of_decide_eq_true h2⟩
  · rintro ⟨k, h1, h2⟩
    exact ⟨k, List.mem_range.mpr h1, decide_eq_true h2⟩
theorem wfl_brk {ch bk : Nat → Nat} : ∀ n, ∀ x ∈ (wfl ch bk n).1, x ≠ 0 → isWd (ch (x - 1)) = true → bk x ≠ 0 := by
  intro n
  induction n with
  | zero => intro x hx; cases hx
  | succ n ih =>
    intro x hx
    unfold wfl at hx
    split at hx
    · split at hx
      · exact ih x hx
      · rename_i c
        rcases List.mem_append.mp hx with q | q
        · exact ih x q
        · rw [List.mem_singleton.mp q]
          intro h1 h2 h3
          exact c ⟨h1, h2, h3⟩
    · exact ih x hx
section
variable {bs : List Nat} {T T' : CT} {K : KT} {pf pl : List Nat}
theorem sgn_ord {p : Nat} (pi : PI bs p T' K) : ∀ (r s : Nat), s + 1 + r < (K 139).length → enK K s ≤ atK K (s + 1 + r) := by
  intro r
  induction r with
  | zero => intro s hs; exact (pi.sc s hs).1
  | succ r ih =>
    intro s hs
    have h1 := ih s (by omega)
    have h2 := (pi.sb (s + 1 + r) (by omega)).1
    have h3 := (pi.sc (s + 1 + r) hs).1
    rw [show s + 1 + (r + 1) = s + 1 + r + 1 by omega]
    omega
theorem sgn_lt {p s s' : Nat} (pi : PI bs p T' K) (h : s < s') (hs : s' < (K 139).length) : enK K s ≤ atK K s' := by
  have := sgn_ord pi (s' - s - 1) s (by omega)
  rw [show s + 1 + (s' - s - 1) = s' by omega] at this
  exact this
theorem wrd_lt (tx : TXR bs T K) : ∀ {v v' : Nat}, v < v' → v' < (T.1 1).length → (wL K).getD v 0 < (wF K).getD v' 0 := by
  intro v v' h
  induction v' with
  | zero => omega
  | succ w ih =>
    intro hw
    have h1 := tx.ww w hw
    by_cases c : v = w
    · rw [c]; exact h1
    · have h2 := ih (by omega) (by omega)
      have h3 := (tx.wb w (by omega)).1
      omega
theorem plc_lt {W : Nat} (pc : PLC W pf pl) : ∀ {k k' : Nat}, k < k' → k' < pf.length → pl.getD k 0 < pf.getD k' 0 := by
  intro k k' h
  induction k' with
  | zero => omega
  | succ j ih =>
    intro hj
    have h1 := (pc.2 j (by omega)).2.2 hj
    by_cases c : k = j
    · rw [c]; exact h1
    · have h2 := ih (by omega) (by omega)
      have h3 := (pc.2 j (by omega)).1
      omega
theorem lit_sign {p i s : Nat} (pi : PI bs p T' K) (hs : s < (K 139).length) (h1 : atK K s ≤ i) (h2 : i < enK K s) : litZ K pf pl i = own K pf pl s := by
  unfold litZ
  cases ho : own K pf pl s
  · rw [List.any_eq_false]
    intro s' hs' q
    have hs' := List.mem_range.mp hs'
    simp only [Bool.and_eq_true, decide_eq_true_eq] at q
    have : s' = s := by
      rcases Nat.lt_trichotomy s s' with c | c | c
      · have := sgn_lt pi c hs'; omega
      · exact c.symm
      · have := sgn_lt pi c hs; omega
    rw [this, ho] at q
    cases q.2
  · rw [List.any_eq_true]
    refine ⟨s, List.mem_range.mpr hs, ?_⟩
    rw [ho, decide_eq_true h1, decide_eq_true h2]; rfl
theorem lit_tag {i : Nat} (h : ¬ inS K i) : litZ K pf pl i = false := by
  unfold litZ
  rw [List.any_eq_false]
  intro s hs q
  simp only [Bool.and_eq_true, decide_eq_true_eq] at q
  exact h ⟨s, List.mem_range.mp hs, q.1.1, q.1.2⟩
/-- where places begin and end, in bytes -/
def pS (K : KT) (pf : List Nat) (k : Nat) : Nat := atK K ((wF K).getD (pf.getD k 0) 0)
def pE (K : KT) (pl : List Nat) (k : Nat) : Nat := enK K ((wL K).getD (pl.getD k 0) 0)
theorem lit_cls {p i k1 : Nat} (pi : PI bs p T' K) (tx : TXR bs T K) (pc : PLC (T.1 1).length pf pl) (h : inS K i) (hk1 : ∀ k, k < k1 → k < pf.length → pE K pl k ≤ i) (hk2 : k1 < pf.length → i < pE K pl k1) : litZ K pf pl i = (decide (k1 < pf.length) && decide (pS K pf k1 ≤ i)) := by
  obtain ⟨s, s1, s2, s3⟩ := h
  rw [lit_sign pi s1 s2 s3]
  -- a sign within a place, and its bytes
  have iff : ∀ k, k < pf.length → (inP K pf pl s k ↔ pS K pf k ≤ i ∧ i < pE K pl k) := by
    intro k hk
    obtain ⟨q1, q2, q3⟩ := pc.2 k hk
    have f1 := tx.wb _ (Nat.lt_of_le_of_lt q1 q2)
    have f2 := tx.wb _ q2
    have fn : (wF K).getD (pf.getD k 0) 0 < (K 139).length := Nat.lt_of_le_of_lt f1.1 f1.2.1
    have gn := f2.2.1
    unfold inP pS pE
    constructor
    · rintro ⟨a1, a2⟩
      refine ⟨?_, ?_⟩
      · by_cases c : (wF K).getD (pf.getD k 0) 0 = s
        · rw [c]; exact s2
        · have h1 := sgn_lt pi (show (wF K).getD (pf.getD k 0) 0 < s by omega) s1
          have h2 := (pi.sb _ fn).1
          omega
      · by_cases c : s = (wL K).getD (pl.getD k 0) 0
        · rw [← c]; exact s3
        · have h1 := sgn_lt pi (show s < (wL K).getD (pl.getD k 0) 0 by omega) gn
          have h2 := (pi.sb _ gn).1
          omega
    · rintro ⟨a1, a2⟩
      refine ⟨?_, ?_⟩
      · rcases Nat.lt_or_ge s ((wF K).getD (pf.getD k 0) 0) with c | c
        · have h1 := sgn_lt pi c fn
          omega
        · exact c
      · rcases Nat.lt_or_ge ((wL K).getD (pl.getD k 0) 0) s with c | c
        · have h1 := sgn_lt pi c s1
          omega
        · exact c
  rw [Bool.eq_iff_iff, own_iff]
  simp only [Bool.and_eq_true, decide_eq_true_eq]
  constructor
  · rintro ⟨k, hk, hp⟩
    obtain ⟨a1, a2⟩ := (iff k hk).mp hp
    have ge : k1 ≤ k := by
      rcases Nat.lt_or_ge k k1 with c | c
      · have := hk1 k c hk; omega
      · exact c
    by_cases c : k1 = k
    · rw [c]; exact ⟨hk, a1⟩
    · exfalso
      have l := plc_lt pc (show k1 < k by omega) hk
      have h2 := hk2 (by omega)
      have q1 := pc.2 k hk
      have g := wrd_lt tx l (by omega)
      have f1 := tx.wb (pf.getD k 0) (by omega)
      have h3 := sgn_lt pi g (by omega)
      unfold pS at a1
      unfold pE at h2
      omega
  · rintro ⟨hk, a1⟩
    exact ⟨k1, hk, (iff k1 hk).mpr ⟨a1, hk2 hk⟩⟩
/-- places do not overlap -/
theorem inP_uniq {s k k' : Nat} (tx : TXR bs T K) (pc : PLC (T.1 1).length pf pl) (hk : k < pf.length) (hk' : k' < pf.length) (h : inP K pf pl s k) (h' : inP K pf pl s k') : k = k' := by
  have key : ∀ a b, a < b → b < pf.length → inP K pf pl s a → inP K pf pl s b → False := by
    intro a b hab hb ha' hb'
    have l := plc_lt pc hab hb
    have q1 := pc.2 b hb
    have g := wrd_lt tx l (by omega)
    unfold inP at ha' hb'
    omega
  rcases Nat.lt_trichotomy k k' with c | c | c
  · exact absurd (key k k' c hk' h h') id
  · exact c
  · exact absurd (key k' k c hk h' h) id
/-- no row runs on into the next -/
theorem run_on {p s k k' : Nat} (pi : PI bs p T' K) (tx : TXR bs T K) (pc : PLC (T.1 1).length pf pl) (hs : s + 1 < (K 139).length) (ht : tgS K (s + 1) = 0) (hk : k < pf.length) (hk' : k' < pf.length) (h : inP K pf pl s k) (h' : inP K pf pl (s + 1) k') : k = k' := by
  rcases Nat.lt_trichotomy k k' with c | c | c
  · exfalso
    have l := plc_lt pc c hk'
    have q0 := pc.2 k hk
    have q1 := pc.2 k' hk'
    have g := wrd_lt tx l (by omega)
    unfold inP at h h'
    have w1 := tx.wb (pl.getD k 0) q0.2.1
    have w2 := tx.wb (pf.getD k' 0) (by omega)
    have w11 := w1.1
    have e1 : (wL K).getD (pl.getD k 0) 0 = s := by omega
    have e2 : (wF K).getD (pf.getD k' 0) 0 = s + 1 := by omega
    have wd : isWd (chK K s) = true := by
      have := w1.2.2.2.2.2.2.2 s (by omega) (by omega)
      exact this
    have lt : pf.getD k' 0 < (wF K).length := by rw [tx.kF]; omega
    have mem : s + 1 ∈ (wF K) := by
      rw [← e2, gD lt]
      exact List.getElem_mem lt
    have := wfl_brk (ch := chK K) (bk := bkK K) (K 139).length (s + 1) mem (by omega) wd
    exact pi.mk (s + 1) (by omega) this ht
  · exact c
  · exfalso
    have l := plc_lt pc c hk
    have q1 := pc.2 k hk
    have g := wrd_lt tx l (by omega)
    unfold inP at h h'
    omega
end
