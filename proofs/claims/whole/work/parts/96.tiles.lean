/-! PRINT: how a read text is laid with signs and tags -/
def stk (bs : List Nat) : Nat → List Nat
  | 0 => []
  | i + 1 => if bs[i]? = some 60 then (opT bs i (stk bs i)).2 else stk bs i
/-- the tags that stand open, by their numbers -/
def ms0 (K : KT) : Nat → List Nat
  | 0 => []
  | t + 1 => if (K 146).getD t 0 ≠ 0 then (ms0 K t).take ((ms0 K t).length - 1) else ms0 K t ++ [t]
def inS (K : KT) (i : Nat) : Prop := ∃ s, s < (K 139).length ∧ atK K s ≤ i ∧ i < enK K s
def tgS (K : KT) (s : Nat) : Nat := (K 142).getD s 0
def bdy (K : KT) (p b : Nat) : Prop := b = 0 ∨ b = p ∨ ∃ s, s < (K 139).length ∧ (b = atK K s ∨ b = enK K s)
def PI (bs : List Nat) (p : Nat) (T : CT) (K : KT) : Prop := (∀ s, s < (K 139).length → atK K s < enK K s ∧ enK K s ≤ p) ∧ (∀ s, s + 1 < (K 139).length → enK K s ≤ atK K (s + 1) ∧ (tgS K (s + 1) = 0 ↔ enK K s = atK K (s + 1))) ∧ ((K 139).length ≠ 0 → (tgS K (K 139).length = 0 ↔ enK K ((K 139).length - 1) = p)) ∧ (∀ i, i < p → inS K i → bs[i]? ≠ some 60) ∧ (∀ i, i < p → ¬ inS K i → ∃ q, q ≤ i ∧ i < q + tagL bs q ∧ q + tagL bs q ≤ p ∧ bs[q]? = some 60 ∧ (∀ j, q < j → j < q + tagL bs q → bs[j]? ≠ some 60)) ∧ (∀ q, q < p → bs[q]? = some 60 → q + tagL bs q ≤ p ∧ ∀ j, q ≤ j → j < q + tagL bs q → ¬ inS K j) ∧ (T.1 10 = stk bs p) ∧ (∀ t, t ≤ (K 144).length → (ms0 K t).length ≤ 8 ∧ ∀ x ∈ ms0 K t, x < t) ∧ ((ms0 K (K 144).length).map (fun t => (K 144).getD t 0) = stk bs p) ∧ (∀ b, b ≤ p → bdy K p b → ∃ c, c ≤ (K 144).length ∧ (∀ t, t < c → (K 145).getD t 0 ≤ b) ∧ (∀ t, c ≤ t → t < (K 144).length → b < (K 145).getD t 0) ∧ (ms0 K c).map (fun t => (K 144).getD t 0) = stk bs b) ∧ (∀ t, t < (K 144).length → (K 145).getD t 0 = (K 144).getD t 0 + tagL bs ((K 144).getD t 0) ∧ (K 145).getD t 0 ≤ p ∧ bs[(K 144).getD t 0]? = some 60) ∧ (∀ s, s ≤ (K 139).length → bkK K s ≠ 0 → tgS K s ≠ 0) ∧ (∀ i, i ≤ p → OpOk bs (stk bs i) ∧ (stk bs i).length ≤ 8 ∧ ∀ o ∈ stk bs i, o < i ∧ bs[o]? = some 60) ∧ (∀ t, t < (K 144).length → (K 146).getD t 0 ≠ 0 → (ms0 K t).length ≠ 0)
theorem PI.sb {bs : List Nat} {p : Nat} {T : CT} {K : KT} (h : PI bs p T K) : ∀ s, s < (K 139).length → atK K s < enK K s ∧ enK K s ≤ p := h.1
theorem PI.sc {bs : List Nat} {p : Nat} {T : CT} {K : KT} (h : PI bs p T K) : ∀ s, s + 1 < (K 139).length → enK K s ≤ atK K (s + 1) ∧ (tgS K (s + 1) = 0 ↔ enK K s = atK K (s + 1)) := h.2.1
theorem PI.sd {bs : List Nat} {p : Nat} {T : CT} {K : KT} (h : PI bs p T K) : (K 139).length ≠ 0 → (tgS K (K 139).length = 0 ↔ enK K ((K 139).length - 1) = p) := h.2.2.1
theorem PI.se {bs : List Nat} {p : Nat} {T : CT} {K : KT} (h : PI bs p T K) : ∀ i, i < p → inS K i → bs[i]? ≠ some 60 := h.2.2.2.1
theorem PI.sf {bs : List Nat} {p : Nat} {T : CT} {K : KT} (h : PI bs p T K) : ∀ i, i < p → ¬ inS K i → ∃ q, q ≤ i ∧ i < q + tagL bs q ∧ q + tagL bs q ≤ p ∧ bs[q]? = some 60 ∧ (∀ j, q < j → j < q + tagL bs q → bs[j]? ≠ some 60) := h.2.2.2.2.1
theorem PI.sg {bs : List Nat} {p : Nat} {T : CT} {K : KT} (h : PI bs p T K) : ∀ q, q < p → bs[q]? = some 60 → q + tagL bs q ≤ p ∧ ∀ j, q ≤ j → j < q + tagL bs q → ¬ inS K j := h.2.2.2.2.2.1
theorem PI.sh {bs : List Nat} {p : Nat} {T : CT} {K : KT} (h : PI bs p T K) : T.1 10 = stk bs p := h.2.2.2.2.2.2.1
theorem PI.mb {bs : List Nat} {p : Nat} {T : CT} {K : KT} (h : PI bs p T K) : ∀ t, t ≤ (K 144).length → (ms0 K t).length ≤ 8 ∧ ∀ x ∈ ms0 K t, x < t := h.2.2.2.2.2.2.2.1
theorem PI.mo {bs : List Nat} {p : Nat} {T : CT} {K : KT} (h : PI bs p T K) : (ms0 K (K 144).length).map (fun t => (K 144).getD t 0) = stk bs p := h.2.2.2.2.2.2.2.2.1
theorem PI.mc {bs : List Nat} {p : Nat} {T : CT} {K : KT} (h : PI bs p T K) : ∀ b, b ≤ p → bdy K p b → ∃ c, c ≤ (K 144).length ∧ (∀ t, t < c → (K 145).getD t 0 ≤ b) ∧ (∀ t, c ≤ t → t < (K 144).length → b < (K 145).getD t 0) ∧ (ms0 K c).map (fun t => (K 144).getD t 0) = stk bs b := h.2.2.2.2.2.2.2.2.2.1
theorem PI.mt {bs : List Nat} {p : Nat} {T : CT} {K : KT} (h : PI bs p T K) : ∀ t, t < (K 144).length → (K 145).getD t 0 = (K 144).getD t 0 + tagL bs ((K 144).getD t 0) ∧ (K 145).getD t 0 ≤ p ∧ bs[(K 144).getD t 0]? = some 60 := h.2.2.2.2.2.2.2.2.2.2.1
theorem PI.mk {bs : List Nat} {p : Nat} {T : CT} {K : KT} (h : PI bs p T K) : ∀ s, s ≤ (K 139).length → bkK K s ≠ 0 → tgS K s ≠ 0 := h.2.2.2.2.2.2.2.2.2.2.2.1
theorem PI.so {bs : List Nat} {p : Nat} {T : CT} {K : KT} (h : PI bs p T K) : ∀ i, i ≤ p → OpOk bs (stk bs i) ∧ (stk bs i).length ≤ 8 ∧ ∀ o ∈ stk bs i, o < i ∧ bs[o]? = some 60 := h.2.2.2.2.2.2.2.2.2.2.2.2.1
theorem PI.mn {bs : List Nat} {p : Nat} {T : CT} {K : KT} (h : PI bs p T K) : ∀ t, t < (K 144).length → (K 146).getD t 0 ≠ 0 → (ms0 K t).length ≠ 0 := h.2.2.2.2.2.2.2.2.2.2.2.2.2
theorem stk_same {bs : List Nat} {p : Nat} : ∀ n, (∀ j, p ≤ j → j < p + n → bs[j]? ≠ some 60) → stk bs (p + n) = stk bs p := by
  intro n
  induction n with
  | zero => intro _; rfl
  | succ n ih =>
    intro h
    show (if bs[p + n]? = some 60 then (opT bs (p + n) (stk bs (p + n))).2 else stk bs (p + n)) = _
    rw [if_neg (h (p + n) (by omega) (by omega)), ih (fun j h1 h2 => h j h1 (by omega))]
/-- inside a tag stands no < -/
theorem tag_in {bs : List Nat} {p : Nat} (h : tagB bs p = true) : 3 ≤ tagL bs p ∧ tagL bs p ≤ 11 ∧ p + tagL bs p ≤ bs.length ∧ (bs[p + 1]? ≠ some 47 → tagL bs p ≤ 10) ∧ ∀ j, p < j → j < p + tagL bs p → bs[j]? ≠ some 60 := by
  obtain ⟨b1, b2, b3, b4⟩ := tagB_at h
  have hf := fst1_le bs p
  have hL : tagL bs p = fst1 bs p + tagN bs p + 1 - p := by unfold tagL; rw [if_pos h]
  obtain ⟨hin, _⟩ := List.getElem?_eq_some_iff.mp b3
  refine ⟨by omega, by omega, by omega, fun q => ?_, fun j h1 h2 q => ?_⟩
  · have : fst1 bs p = p + 1 := if_neg q
    omega
  · by_cases c : j < fst1 bs p
    · have e : fst1 bs p = p + 2 ∧ bs[p + 1]? = some 47 := by
        unfold fst1 at c ⊢
        split
        · rename_i w; exact ⟨rfl, w⟩
        · rename_i w; rw [if_neg w] at c; omega
      rw [show j = p + 1 by omega, e.2] at q
      cases q
    · by_cases c2 : j < fst1 bs p + tagN bs p
      · have := b4 (j - fst1 bs p) (by omega)
        rw [show fst1 bs p + (j - fst1 bs p) = j by omega, q] at this
        cases this
      · rw [show j = fst1 bs p + tagN bs p by omega, b3] at q
        cases q
theorem ms0_same {K K' : KT} {n : Nat} (h : ∀ t, t < n → (K' 146).getD t 0 = (K 146).getD t 0) : ∀ t, t ≤ n → ms0 K' t = ms0 K t := by
  intro t
  induction t with
  | zero => intro _; rfl
  | succ t ih =>
    intro ht
    unfold ms0
    rw [h t (by omega), ih (by omega)]
theorem map_same {l : List Nat} {f g : Nat → Nat} {n : Nat} (hl : ∀ x ∈ l, x < n) (h : ∀ t, t < n → f t = g t) : l.map f = l.map g := List.map_congr_left (fun x hx => h x (hl x hx))
theorem PI0 (bs : List Nat) : PI bs 0 (T0 bs) K0 := by
  refine ⟨(fun s hs => by cases hs), (fun s hs => by cases hs), (fun q => absurd rfl q), (fun i hi => by cases hi), (fun i hi => by cases hi), (fun i hi => by cases hi), rfl, fun t ht => ?_, rfl, fun b hb _ => ?_, (fun t ht => by cases ht), fun s hs q => ?_, fun i hi => ?_, (fun t ht => by cases ht)⟩
  · have : t = 0 := by have : t ≤ 0 := ht; omega
    subst this
    exact ⟨Nat.zero_le _, fun x hx => by cases hx⟩
  · have : b = 0 := by omega
    subst this
    exact ⟨0, Nat.zero_le _, fun t ht => by omega, (fun t _ ht => by cases ht), rfl⟩
  · have : s = 0 := by have : s ≤ 0 := hs; omega
    subst this
    exact absurd rfl q
  · have : i = 0 := by omega
    subst this
    exact ⟨(fun o ho => by cases ho), Nat.zero_le _, fun o ho => by cases ho⟩
theorem PI.sign {bs : List Nat} {p n ch : Nat} {T T' : CT} {K : KT} (h : PI bs p T K) (kw : KW p K) (hn : 1 ≤ n) (h60 : ∀ j, p ≤ j → j < p + n → bs[j]? ≠ some 60) (hT : T'.1 10 = T.1 10) : PI bs (p + n) T' (kSign K ch p (p + n)) := by
  obtain ⟨w1, w2, w3, w4, w5, w6, w7, w8⟩ := kw
  generalize hK : kSign K ch p (p + n) = K'
  have k139 : (K' 139).length = (K 139).length + 1 := by rw [← hK]; show (K 139 ++ [ch]).length = _; simp
  have k144 : K' 144 = K 144 := by rw [← hK]; rfl
  have k145 : K' 145 = K 145 := by rw [← hK]; rfl
  have k146 : K' 146 = K 146 := by rw [← hK]; rfl
  have atO : ∀ s, s < (K 139).length → atK K' s = atK K s := fun s hs => by
    rw [← hK]; show (K 140 ++ [p]).getD s 0 = _; exact getD_l (by omega)
  have enO : ∀ s, s < (K 139).length → enK K' s = enK K s := fun s hs => by
    rw [← hK]; show (K 141 ++ [p + n]).getD s 0 = _; exact getD_l (by omega)
  have atN : atK K' (K 139).length = p := by rw [← hK]; show (K 140 ++ [p]).getD _ 0 = _; exact getD_r (by omega)
  have enN : enK K' (K 139).length = p + n := by rw [← hK]; show (K 141 ++ [p + n]).getD _ 0 = _; exact getD_r (by omega)
  have tgO : ∀ s, s ≤ (K 139).length → tgS K' s = tgS K s := fun s hs => by
    rw [← hK]; show (K 142 ++ [0]).getD s 0 = _; exact getD_l (by omega)
  have tgN : tgS K' ((K 139).length + 1) = 0 := by rw [← hK]; show (K 142 ++ [0]).getD _ 0 = _; exact getD_r (by omega)
  have bkO : ∀ s, s ≤ (K 139).length → bkK K' s = bkK K s := fun s hs => by
    rw [← hK]; show (K 143 ++ [0]).getD s 0 = _; exact getD_l (by omega)
  have bkN : bkK K' ((K 139).length + 1) = 0 := by rw [← hK]; show (K 143 ++ [0]).getD _ 0 = _; exact getD_r (by omega)
  have inO : ∀ i, i < p → (inS K' i ↔ inS K i) := fun i hi => by
    constructor
    · rintro ⟨s, s1, s2, s3⟩
      by_cases c : s < (K 139).length
      · rw [atO s c] at s2
        rw [enO s c] at s3
        exact ⟨s, c, s2, s3⟩
      · rw [show s = (K 139).length by omega, atN] at s2
        omega
    · rintro ⟨s, s1, s2, s3⟩
      exact ⟨s, by omega, by rw [atO s s1]; exact s2, by rw [enO s s1]; exact s3⟩
  have inN : ∀ i, p ≤ i → i < p + n → inS K' i := fun i h1 h2 => ⟨(K 139).length, by omega, by rw [atN]; exact h1, by rw [enN]; exact h2⟩
  have ms : ∀ t, t ≤ (K 144).length → ms0 K' t = ms0 K t := ms0_same (fun t _ => by rw [k146])
  have st : stk bs (p + n) = stk bs p := stk_same n h60
  refine ⟨fun s hs => ?_, fun s hs => ?_, fun _ => ?_, fun i hi q => ?_, fun i hi q => ?_, fun q hq e => ?_, by rw [hT, h.sh, st], fun t ht => ?_, ?_, fun b hb hbd => ?_, fun t ht => ?_, fun s hs q => ?_, fun i hi => ?_, fun t ht q => ?_⟩
  · by_cases c : s < (K 139).length
    · rw [atO s c, enO s c]
      have := h.sb s c
      exact ⟨this.1, by omega⟩
    · rw [show s = (K 139).length by omega, atN, enN]
      exact ⟨by omega, by omega⟩
  · by_cases c : s + 1 < (K 139).length
    · rw [atO _ c, enO s (by omega), tgO _ (by omega)]
      exact h.sc s c
    · have e : s + 1 = (K 139).length := by omega
      rw [e, atN, enO s (by omega), tgO _ (Nat.le_refl _)]
      have := h.sd (by omega)
      rw [show (K 139).length - 1 = s by omega] at this
      exact ⟨(h.sb s (by omega)).2, this⟩
  · rw [k139, tgN, Nat.add_sub_cancel, enN]
    exact ⟨fun _ => rfl, fun _ => rfl⟩
  · by_cases c : i < p
    · exact h.se i c ((inO i c).mp q)
    · exact h60 i (by omega) hi
  · by_cases c : i < p
    · obtain ⟨x, x1, x2, x3, x4, x5⟩ := h.sf i c (fun w => q ((inO i c).mpr w))
      exact ⟨x, x1, x2, by omega, x4, x5⟩
    · exact absurd (inN i (by omega) hi) q
  · by_cases c : q < p
    · obtain ⟨x1, x2⟩ := h.sg q c e
      exact ⟨by omega, fun j h1 h2 w => x2 j h1 h2 ((inO j (by omega)).mp w)⟩
    · exact absurd e (h60 q (by omega) hq)
  · rw [k144] at ht
    rw [ms t ht]
    exact h.mb t ht
  · rw [k144, ms _ (Nat.le_refl _), st]
    exact h.mo
  · rw [k144, k145]
    by_cases c : b ≤ p
    · have hb' : bdy K p b := by
        rcases hbd with q | q | ⟨s, s1, s2⟩
        · exact Or.inl q
        · omega
        · by_cases cs : s < (K 139).length
          · rw [atO s cs, enO s cs] at s2
            exact Or.inr (Or.inr ⟨s, cs, s2⟩)
          · rw [show s = (K 139).length by omega, atN, enN] at s2
            exact Or.inr (Or.inl (by omega))
      obtain ⟨x, x1, x2, x3, x4⟩ := h.mc b c hb'
      exact ⟨x, x1, x2, x3, by rw [ms x x1]; exact x4⟩
    · have eb : b = p + n := by
        rcases hbd with q | q | ⟨s, s1, s2⟩
        · omega
        · exact q
        · by_cases cs : s < (K 139).length
          · rw [atO s cs, enO s cs] at s2
            have := h.sb s cs
            omega
          · rw [show s = (K 139).length by omega, atN, enN] at s2
            omega
      subst eb
      refine ⟨(K 144).length, Nat.le_refl _, fun t ht => ?_, fun t h1 h2 => by omega, by rw [ms _ (Nat.le_refl _), st]; exact h.mo⟩
      have := (h.mt t ht).2.1
      omega
  · rw [k144] at ht ⊢
    rw [k145]
    obtain ⟨x1, x2, x3⟩ := h.mt t ht
    exact ⟨x1, by omega, x3⟩
  · rw [k139] at hs
    by_cases c : s ≤ (K 139).length
    · rw [bkO s c] at q
      rw [tgO s c]
      exact h.mk s c q
    · rw [show s = (K 139).length + 1 by omega, bkN] at q
      exact absurd rfl q
  · by_cases c : i ≤ p
    · exact h.so i c
    · have e : stk bs i = stk bs p := by
        have := stk_same (bs := bs) (p := p) (i - p) (fun j h1 h2 => h60 j h1 (by omega))
        rw [show p + (i - p) = i by omega] at this
        exact this
      rw [e]
      obtain ⟨y1, y2, y3⟩ := h.so p (Nat.le_refl _)
      exact ⟨y1, y2, fun o ho => ⟨by have := (y3 o ho).1; omega, (y3 o ho).2⟩⟩
  · rw [k144] at ht
    rw [k146] at q
    rw [ms t (by omega)]
    exact h.mn t ht q
theorem take_map {l : List Nat} {f : Nat → Nat} {n : Nat} : (l.take n).map f = (l.map f).take n := by rw [List.map_take]
theorem PI.tag {bs : List Nat} {p cl br : Nat} {T T' : CT} {K : KT} (h : PI bs p T K) (kw : KW p K) (hb : tagB bs p = true) (h60 : bs[p]? = some 60) (ho : (opT bs p (T.1 10)).1 = true) (hcl : cl = if bs[p + 1]? = some 47 then 1 else 0) (hbr : br ≤ 1) (hT : T'.1 10 = (opT bs p (T.1 10)).2) : PI bs (p + tagL bs p) T' (kTag K p (p + tagL bs p) cl br) := by
  obtain ⟨w1, w2, w3, w4, w5, w6, w7, w8⟩ := kw
  obtain ⟨l3, l11, lin, l10, no⟩ := tag_in hb
  generalize hK : kTag K p (p + tagL bs p) cl br = K'
  have k139 : K' 139 = K 139 := by rw [← hK]; rfl
  have k140 : K' 140 = K 140 := by rw [← hK]; rfl
  have k141 : K' 141 = K 141 := by rw [← hK]; rfl
  have k144 : K' 144 = K 144 ++ [p] := by rw [← hK]; rfl
  have k145 : K' 145 = K 145 ++ [p + tagL bs p] := by rw [← hK]; rfl
  have k146 : K' 146 = K 146 ++ [cl] := by rw [← hK]; rfl
  have k142 : K' 142 = (K 142).set (K 139).length 1 := by rw [← hK]; rfl
  have k143 : K' 143 = if br = 1 then (K 143).set (K 139).length 1 else K 143 := by rw [← hK]; rfl
  have at' : atK K' = atK K := by funext s; unfold atK; rw [k140]
  have en' : enK K' = enK K := by funext s; unfold enK; rw [k141]
  have in' : ∀ i, inS K' i ↔ inS K i := fun i => by unfold inS; rw [k139, at', en']
  have tgO : ∀ s, s ≠ (K 139).length → tgS K' s = tgS K s := fun s hs => by
    unfold tgS; rw [k142, gN (fun e => hs e.symm)]
  have tgN : tgS K' (K 139).length = 1 := by unfold tgS; rw [k142, gS (by omega)]
  have ms : ∀ t, t ≤ (K 144).length → ms0 K' t = ms0 K t := ms0_same (fun t ht => by rw [k146, getD_l (by omega)])
  have mnew : ms0 K' ((K 144).length + 1) = if cl ≠ 0 then (ms0 K (K 144).length).take ((ms0 K (K 144).length).length - 1) else ms0 K (K 144).length ++ [(K 144).length] := by
    show (if (K' 146).getD (K 144).length 0 ≠ 0 then _ else _) = _
    rw [k146, getD_r (by omega), ms _ (Nat.le_refl _)]
  have lenM : (ms0 K (K 144).length).length = (stk bs p).length := by rw [← h.mo, List.length_map]
  have st1 : stk bs (p + 1) = (opT bs p (stk bs p)).2 := by show (if bs[p]? = some 60 then _ else _) = _; rw [if_pos h60]
  have stn : stk bs (p + tagL bs p) = (opT bs p (stk bs p)).2 := by
    rw [← st1, show p + tagL bs p = p + 1 + (tagL bs p - 1) by omega]
    exact stk_same _ (fun j h1 h2 => no j (by omega) (by omega))
  rw [h.sh] at ho hT
  have getO : ∀ t, t < (K 144).length → (K' 144).getD t 0 = (K 144).getD t 0 := fun t ht => by rw [k144, getD_l ht]
  have geO5 : ∀ t, t < (K 144).length → (K' 145).getD t 0 = (K 145).getD t 0 := fun t ht => by rw [k145, getD_l (by omega)]
  have mo' : (ms0 K' ((K 144).length + 1)).map (fun t => (K' 144).getD t 0) = stk bs (p + tagL bs p) ∧ (ms0 K' ((K 144).length + 1)).length ≤ 8 ∧ ∀ x ∈ ms0 K' ((K 144).length + 1), x < (K 144).length + 1 := by
    have old := h.mb _ (Nat.le_refl _)
    have mp : (ms0 K (K 144).length).map (fun t => (K' 144).getD t 0) = stk bs p := by rw [map_same old.2 getO]; exact h.mo
    rw [mnew, stn]
    unfold opT at ho ⊢
    by_cases c : bs[p + 1]? = some 47
    · rw [if_pos c] at hcl ho ⊢
      rw [hcl, if_pos (by decide)]
      by_cases c1 : (stk bs p).length = 0
      · rw [if_pos c1] at ho; cases ho
      · rw [if_neg c1] at ho ⊢
        by_cases c2 : sameL bs (lastO (stk bs p)) p 9 0 = true
        · rw [if_pos c2]
          refine ⟨?_, by rw [List.length_take]; omega, fun x hx => ?_⟩
          · rw [take_map, mp, lenM]
          · have := old.2 x (List.mem_of_mem_take hx); omega
        · rw [if_neg c2] at ho; cases ho
    · rw [if_neg c] at hcl ho ⊢
      rw [hcl, if_neg (by decide)]
      by_cases c1 : (stk bs p).length < 8
      · rw [if_pos c1]
        refine ⟨?_, by rw [List.length_append, lenM]; simp only [List.length_cons, List.length_nil]; omega, fun x hx => ?_⟩
        · rw [List.map_append, mp]
          show _ ++ [(K' 144).getD (K 144).length 0] = _
          rw [k144, getD_r rfl]
        · rcases List.mem_append.mp hx with q | q
          · have := old.2 x q; omega
          · rw [List.mem_singleton.mp q]; omega
      · rw [if_neg c1] at ho; cases ho
  have l144 : (K' 144).length = (K 144).length + 1 := by rw [k144, List.length_append]; rfl
  refine ⟨fun s hs => ?_, fun s hs => ?_, fun n0 => ?_, fun i hi q => ?_, fun i hi q => ?_, fun q hq e => ?_, by rw [hT, stn], fun t ht => ?_, by rw [l144]; exact mo'.1, fun b hb hbd => ?_, fun t ht => ?_, fun s hs q => ?_, fun i hi => ?_, fun t ht q => ?_⟩
  · rw [k139] at hs
    rw [at', en']
    have := h.sb s hs
    exact ⟨this.1, by omega⟩
  · rw [k139] at hs
    rw [at', en', tgO _ (by omega)]
    exact h.sc s hs
  · rw [k139] at n0 ⊢
    rw [tgN, en']
    have := (h.sb ((K 139).length - 1) (by omega)).2
    exact ⟨(fun q => by cases q), fun q => by omega⟩
  · obtain ⟨s, s1, s2, s3⟩ := (in' i).mp q
    have := (h.sb s s1).2
    exact h.se i (by omega) ((in' i).mp q)
  · by_cases c : i < p
    · obtain ⟨x, x1, x2, x3, x4, x5⟩ := h.sf i c (fun w => q ((in' i).mpr w))
      exact ⟨x, x1, x2, by omega, x4, x5⟩
    · exact ⟨p, by omega, hi, Nat.le_refl _, h60, no⟩
  · by_cases c : q < p
    · obtain ⟨x1, x2⟩ := h.sg q c e
      exact ⟨by omega, fun j h1 h2 w => x2 j h1 h2 ((in' j).mp w)⟩
    · by_cases c2 : q = p
      · subst c2
        refine ⟨Nat.le_refl _, fun j h1 h2 w => ?_⟩
        obtain ⟨s, s1, s2, s3⟩ := (in' j).mp w
        have := (h.sb s s1).2
        omega
      · exact absurd e (no q (by omega) hq)
  · rw [l144] at ht
    by_cases c : t ≤ (K 144).length
    · rw [ms t c]; exact h.mb t c
    · rw [show t = (K 144).length + 1 by omega]
      exact mo'.2
  · rw [l144]
    by_cases c : b ≤ p
    · have hb' : bdy K p b := by
        rcases hbd with q | q | ⟨s, s1, s2⟩
        · exact Or.inl q
        · omega
        · rw [k139] at s1
          rw [at', en'] at s2
          exact Or.inr (Or.inr ⟨s, s1, s2⟩)
      obtain ⟨x, x1, x2, x3, x4⟩ := h.mc b c hb'
      refine ⟨x, by omega, fun t ht => by rw [geO5 t (by omega)]; exact x2 t ht, fun t h1 h2 => ?_, ?_⟩
      · by_cases ct : t < (K 144).length
        · rw [geO5 t ct]; exact x3 t h1 ct
        · rw [k145, getD_r (by omega)]; omega
      · rw [ms x x1, map_same (fun y hy => by have := (h.mb x x1).2 y hy; omega) getO]
        exact x4
    · have eb : b = p + tagL bs p := by
        rcases hbd with q | q | ⟨s, s1, s2⟩
        · omega
        · exact q
        · rw [k139] at s1
          rw [at', en'] at s2
          have := h.sb s s1
          omega
      subst eb
      refine ⟨(K 144).length + 1, Nat.le_refl _, fun t ht => ?_, fun t h1 h2 => by omega, mo'.1⟩
      by_cases ct : t < (K 144).length
      · rw [geO5 t ct]
        have := (h.mt t ct).2.1
        omega
      · rw [k145, getD_r (by omega)]; omega
  · rw [l144] at ht
    by_cases ct : t < (K 144).length
    · rw [getO t ct, geO5 t ct]
      obtain ⟨x1, x2, x3⟩ := h.mt t ct
      exact ⟨x1, by omega, x3⟩
    · have e : t = (K 144).length := by omega
      rw [k145, getD_r (by omega), k144, getD_r e]
      exact ⟨rfl, Nat.le_refl _, h60⟩
  · rw [k139] at hs
    by_cases c : s = (K 139).length
    · rw [c, tgN]; decide
    · rw [tgO s c]
      refine h.mk s hs ?_
      unfold bkK at q ⊢
      rw [k143] at q
      by_cases b1 : br = 1
      · rw [if_pos b1, gN (fun e => c e.symm)] at q; exact q
      · rw [if_neg b1] at q; exact q
  · by_cases c : i ≤ p
    · exact h.so i c
    · have e : stk bs i = (opT bs p (stk bs p)).2 := by
        rw [← st1, show i = p + 1 + (i - p - 1) by omega]
        exact stk_same _ (fun j h1 h2 => no j (by omega) (by omega))
      obtain ⟨y1, y2, y3⟩ := h.so p (Nat.le_refl _)
      rw [e]
      refine ⟨opT_ok y1 hb, ?_, fun o ho' => ?_⟩
      · have := mo'.2.1
        rw [← stn, ← mo'.1, List.length_map]
        exact this
      · unfold opT at ho'
        have fin : ∀ o ∈ stk bs p, o < i ∧ bs[o]? = some 60 := fun o hq => ⟨by have := (y3 o hq).1; omega, (y3 o hq).2⟩
        split at ho'
        · split at ho'
          · exact fin o ho'
          · split at ho'
            · exact fin o (List.mem_of_mem_take ho')
            · exact fin o ho'
        · split at ho'
          · rcases List.mem_append.mp ho' with q | q
            · exact fin o q
            · rw [List.mem_singleton.mp q]; exact ⟨by omega, h60⟩
          · exact fin o ho'
  · rw [l144] at ht
    rw [ms t (by omega)]
    by_cases ct : t < (K 144).length
    · rw [k146, getD_l (by omega)] at q
      exact h.mn t ct q
    · have e : t = (K 144).length := by omega
      rw [e, lenM]
      rw [k146, getD_r (by omega), hcl] at q
      by_cases c : bs[p + 1]? = some 47
      · unfold opT at ho
        rw [if_pos c] at ho
        intro w
        rw [if_pos w] at ho
        cases ho
      · rw [if_neg c] at q
        exact absurd rfl q
theorem nameL_60 {bs : List Nat} {p : Nat} (h0 : bs[p]? = some 38) (h : nameL bs p ≠ 0) : 1 ≤ nameL bs p ∧ ∀ j, p ≤ j → j < p + nameL bs p → bs[j]? ≠ some 60 := by
  unfold nameL at h ⊢
  split
  · rename_i e
    refine ⟨by omega, fun j h1 h2 q => ?_⟩
    rcases (show j = p ∨ j = p + 1 ∨ j = p + 2 ∨ j = p + 3 by omega) with rfl | rfl | rfl | rfl
    · rw [h0] at q; cases q
    · rcases e.1 with e1 | e1 <;> rw [e1] at q <;> cases q
    · rw [e.2.1] at q; cases q
    · rw [e.2.2] at q; cases q
  · split
    · rename_i e
      refine ⟨by omega, fun j h1 h2 q => ?_⟩
      rcases (show j = p ∨ j = p + 1 ∨ j = p + 2 ∨ j = p + 3 ∨ j = p + 4 by omega) with rfl | rfl | rfl | rfl | rfl
      · rw [h0] at q; cases q
      · rw [e.1] at q; cases q
      · rw [e.2.1] at q; cases q
      · rw [e.2.2.1] at q; cases q
      · rw [e.2.2.2] at q; cases q
    · rename_i e1 e2
      rw [if_neg e1, if_neg e2] at h
      exact absurd rfl h
theorem PI.step {bs : List Nat} {p n : Nat} {T T' : CT} {K : KT} (e : cStep bs p T = some (n, T')) (h : PI bs p T K) (kw : KW p K) : PI bs (p + n) T' (kStep bs p n K) := by
  obtain ⟨c, hc, c1, c2, hk⟩ := cStep_kind e
  unfold kStep
  rw [gDo hc]
  rcases hk with ⟨q, q1, q2, q3, q4⟩ | ⟨q, q1, q2, q3, q4, q5⟩ | ⟨q, q1, q2, q3, q4⟩ | ⟨q, q1, q2, q3, q4⟩
  · rw [if_pos q, q3]
    refine h.tag kw q1 (by rw [hc, q]) q2 rfl (by split <;> omega) ?_
    rw [q4]; rfl
  · rw [if_neg q]
    refine h.sign kw (by omega) (fun j h1 h2 w => ?_) (by rw [q5]; exact cWord_10 T p _)
    rw [show j = p by omega, hc] at w
    cases w; exact q rfl
  · rw [if_neg (by omega)]
    obtain ⟨n1, n2⟩ := nameL_60 (by rw [hc, q]) q2
    exact h.sign kw (by omega) (fun j h1 h2 => n2 j h1 (by omega)) (by rw [q4]; rfl)
  · rw [if_neg q]
    refine h.sign kw (by omega) (fun j h1 h2 w => ?_) (by rw [q4]; rfl)
    rw [show j = p by omega, hc] at w
    cases w; exact q rfl
theorem pi_go {bs : List Nat} : ∀ (r p : Nat) (T T' : CT) (K : KT), cgo bs r p T = (none, T') → bs.length ≤ p + r → p ≤ bs.length → WfT p T → KW p K → PI bs p T K → T.1 0 = bs → PI bs bs.length T' (kgo bs r p T K) := by
  intro r
  induction r with
  | zero =>
    intro p T T' K e hr hp w kw h hz
    have : p = bs.length := by omega
    subst this
    cases e
    exact h
  | succ r ih =>
    intro p T T' K e hr hp w kw h hz
    unfold cgo at e
    unfold kgo
    by_cases c : p < bs.length
    · rw [if_pos c] at e ⊢
      cases hs : cStep bs p T with
      | none => rw [hs] at e; cases e
      | some nT =>
        obtain ⟨n, T2⟩ := nT
        rw [hs] at e
        obtain ⟨w', n1, n2, hz'⟩ := cStep_wf w hs
        exact ih (p + n) T2 T' _ e (by omega) n2 w' (kStep_w hs kw) (h.step hs kw) (by rw [hz', hz])
    · rw [if_neg c] at e ⊢
      have : p = bs.length := by omega
      subst this
      cases e
      exact h
theorem pi_read {bs : List Nat} (h : (cread bs).1 = none) : ∃ T, PI bs bs.length T (kread bs) := by
  obtain ⟨T, _, _, _, _, _, e⟩ := cread_ok h
  exact ⟨T, pi_go bs.length 0 (T0 bs) T K0 e (by omega) (by omega) (WfT0 bs) KW0 (PI0 bs) rfl⟩
