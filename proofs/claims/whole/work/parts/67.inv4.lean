/-! WORDS AND SENTENCES: the whole reading -/
def chK (K : KT) (i : Nat) : Nat := (K 139).getD i 0
def atK (K : KT) (i : Nat) : Nat := (K 140).getD i 0
def enK (K : KT) (i : Nat) : Nat := (K 141).getD i 0
def bkK (K : KT) (i : Nat) : Nat := (K 143).getD i 0
def wF (K : KT) : List Nat := (wfl (chK K) (bkK K) (K 139).length).1
def wL (K : KT) : List Nat := (wfl (chK K) (bkK K) (K 139).length).2
def InvK (T : CT) (K : KT) : Prop := InvT T (K 139).length (chK K) (atK K) (enK K) (bkK K) (wF K) (wL K)
section
variable {K : KT} {p e cl c : Nat}
theorem kTag_ch {br : Nat} : chK (kTag K p e cl br) = chK K := rfl
theorem kTag_at {br : Nat} : atK (kTag K p e cl br) = atK K := rfl
theorem kTag_en {br : Nat} : enK (kTag K p e cl br) = enK K := rfl
theorem kTag_n {br : Nat} : kTag K p e cl br 139 = K 139 := rfl
theorem kTag_bk {b : Bool} (h : (K 143).length = (K 139).length + 1) : bkK (kTag K p e cl (if b = true then 1 else 0)) = if b = true then va_up (bkK K) (K 139).length 1 else bkK K := by
  cases b with
  | true => exact gCs (by omega)
  | false => rfl
theorem kSign_ch : chK (kSign K c p e) = va_up (chK K) (K 139).length c := gC _ _
theorem kSign_at (h : (K 140).length = (K 139).length) : atK (kSign K c p e) = va_up (atK K) (K 139).length p := by
  rw [← h]
  exact gC _ _
theorem kSign_en (h : (K 141).length = (K 139).length) : enK (kSign K c p e) = va_up (enK K) (K 139).length e := by
  rw [← h]
  exact gC _ _
theorem kSign_bk : bkK (kSign K c p e) = bkK K := gC0 _
theorem kSign_n : (kSign K c p e 139).length = (K 139).length + 1 := by
  show (K 139 ++ [c]).length = _
  rw [List.length_append]; rfl
end
theorem kCh_c {bs : List Nat} {p c : Nat} (hc : bs[p]? = some c) (h : c ≠ 38) : kCh bs p = c := by
  unfold kCh
  rw [gDo hc, if_neg h]
theorem kCh_38 {bs : List Nat} {p : Nat} (hc : bs[p]? = some 38) : kCh bs p = 38 ∨ kCh bs p = 60 ∨ kCh bs p = 62 := by
  unfold kCh
  rw [gDo hc, if_pos rfl]
  split
  · exact Or.inl rfl
  · split
    · exact Or.inr (Or.inl rfl)
    · exact Or.inr (Or.inr rfl)
theorem InvK_other {T : CT} {K : KT} {p c c' e : Nat} (h : InvK T K) (kw : KW p K) (hw : isWd c' = false) (h32 : c = 32 ↔ c' = 32) (hsp : spB c' = spB c) (w13 : T.2 13 ≤ 1) (w14 : T.2 14 ≤ 1) : InvK (cOther T c e) (kSign K c' p e) := by
  have := InvT.other (p := p) (e := e) h hw h32 hsp w13 w14
  have hwf : wfl (va_up (chK K) (K 139).length c') (bkK K) ((K 139).length + 1) = wfl (chK K) (bkK K) (K 139).length := by
    conv => lhs; unfold wfl
    rw [vs, if_neg (by rw [hw]; decide)]
    exact wfl_loc _ (fun i hi => ⟨vn _ _ (by omega), rfl⟩)
  unfold InvK wF wL
  rw [kSign_ch, kSign_at kw.1, kSign_en kw.2.1, kSign_bk, kSign_n, hwf]
  exact this
theorem cStep_inv {bs : List Nat} {p n : Nat} {T T' : CT} {K : KT} (hs : cStep bs p T = some (n, T')) (w : WfT p T) (kw : KW p K) (h : InvK T K) : InvK T' (kStep bs p n K) := by
  obtain ⟨c, hc, c1, c2, hk⟩ := cStep_kind hs
  have w0 := w
  obtain ⟨w1, w2, w3, w4, w6, w7, w5, w8, w9, w9', w10, wo, w11, w12, w13, w14, w15⟩ := w0
  obtain ⟨k1, k2, k3, k4, k5, k6, k7, k8⟩ := kw
  have kw : KW p K := ⟨k1, k2, k3, k4, k5, k6, k7, k8⟩
  unfold kStep
  rw [gDo hc]
  rcases hk with ⟨q, q1, q2, q3, q4⟩ | ⟨q, q1, q2, q3, q4, q5⟩ | ⟨q, q1, q2, q3, q4⟩ | ⟨q, q1, q2, q3, q4⟩
  · rw [if_pos q, q4]
    unfold InvK wF wL
    rw [kTag_ch, kTag_at, kTag_en, kTag_n, kTag_bk k4]
    have hwf : wfl (chK K) (if isBr bs p = true then va_up (bkK K) (K 139).length 1 else bkK K) (K 139).length = wfl (chK K) (bkK K) (K 139).length := by
      refine wfl_loc _ (fun i hi => ⟨rfl, ?_⟩)
      split
      · exact vn _ _ (by omega)
      · rfl
    rw [hwf]
    exact InvT.tag h _ _
  · rw [if_neg q, q5, kCh_c hc q1]
    subst q4
    unfold cWord
    have a2 := h.2.1
    have c1' := h.2.2.2.2.1
    have hwf : (if T.2 11 = 0 then ((wF K) ++ [(K 139).length], (wL K) ++ [(K 139).length]) else (wF K, (wL K).set ((T.1 1).length - 1) (K 139).length)) = wfl (va_up (chK K) (K 139).length c) (bkK K) ((K 139).length + 1) := by
      conv => rhs; unfold wfl
      rw [vs, if_pos q2, wfl_loc (ch := chK K) (bk := bkK K) (K 139).length (fun i hi => ⟨vn _ _ (by omega), rfl⟩)]
      by_cases e : T.2 11 = 0
      · rw [if_pos e, if_neg]
        · rfl
        · intro x
          rw [vn _ _ (by omega)] at x
          have := c1'.mpr x
          omega
      · rw [if_neg e, if_pos]
        · show (wF K, (wL K).set ((T.1 1).length - 1) (K 139).length) = (wF K, (wL K).set ((wL K).length - 1) (K 139).length)
          rw [a2]
        · have := c1'.mp (by omega)
          rw [vn _ _ (by omega)]
          exact this
    unfold InvK
    rw [kSign_ch, kSign_at k1, kSign_en k2, kSign_bk, kSign_n]
    have eF : wF (kSign K c p (p + 1)) = (wfl (va_up (chK K) (K 139).length c) (bkK K) ((K 139).length + 1)).1 := by
      unfold wF
      rw [kSign_ch, kSign_bk, kSign_n]
    have eL : wL (kSign K c p (p + 1)) = (wfl (va_up (chK K) (K 139).length c) (bkK K) ((K 139).length + 1)).2 := by
      unfold wL
      rw [kSign_ch, kSign_bk, kSign_n]
    rw [eF, eL, ← hwf]
    by_cases e : T.2 11 = 0
    · rw [if_pos e, if_pos e]
      exact InvT.new h q2 e w
    · rw [if_neg e, if_neg e]
      exact InvT.ext h q2 (by omega) w2 w7
  · rw [if_neg (by omega), q4, q3]
    subst q
    rcases kCh_38 hc with e | e | e <;> rw [e] <;> exact InvK_other h kw (by decide) (by decide) (by decide) w13 w14
  · rw [if_neg q, q4, q3, kCh_c hc q1]
    exact InvK_other h kw q2 Iff.rfl rfl w13 w14
theorem InvK0 (bs : List Nat) : InvK (T0 bs) K0 := by
  refine ⟨rfl, rfl, ?_, ?_, ?_, ?_, ?_, ?_, rfl, ?_, ?_, ?_, rfl, ?_, ?_, ?_⟩
  · intro k hk; cases hk
  · intro k hk; cases hk
  · exact ⟨fun q => (by cases q), fun q => absurd rfl q.1⟩
  · intro q; exact absurd rfl q
  · intro q; exact absurd rfl q
  · intro k hk; cases hk
  · intro k hk; cases hk
  · intro q; exact absurd rfl q
  · exact ⟨fun q => (by cases q), fun q => absurd rfl q.1⟩
  · intro k hk; cases hk
  · intro i hi
    show ([0] : List Nat).getD i 0 = 0
    have : 0 < i := hi
    exact gDn this
  · intro k hk; cases hk
theorem cgo_inv {bs : List Nat} : ∀ (r p : Nat) (T : CT) (K : KT), WfT p T → KW p K → InvK T K → InvK (cgo bs r p T).2 (kgo bs r p T K) := by
  intro r
  induction r with
  | zero => intro p T K w kw h; exact h
  | succ r ih =>
    intro p T K w kw h
    unfold cgo kgo
    split
    · cases hs : cStep bs p T with
      | none => exact h
      | some nT =>
        obtain ⟨n, T'⟩ := nT
        obtain ⟨w', n1, n2, hz'⟩ := cStep_wf w hs
        exact ih (p + n) T' _ w' (kStep_w hs kw) (cStep_inv hs w kw h)
    · exact h
theorem KW0 : KW 0 K0 := by refine ⟨rfl, rfl, rfl, rfl, rfl, rfl, ?_, ?_⟩ <;> simp [K0]
/-- a text that has no fault -/
theorem cread_ok {bs : List Nat} (h : (cread bs).1 = none) : ∃ T, (cread bs).2 = cEnd T ∧ WfT bs.length T ∧ InvK T (kread bs) ∧ (T.1 10).length = 0 ∧ T.1 0 = bs ∧ cgo bs bs.length 0 (T0 bs) = (none, T) := by
  unfold cread at h ⊢
  have i1 := cgo_inv (bs := bs) bs.length 0 (T0 bs) K0 (WfT0 bs) KW0 (InvK0 bs)
  have i2 := cgo_wf (bs := bs) bs.length 0 (T0 bs) (WfT0 bs) (by omega) rfl
  cases hq : cgo bs bs.length 0 (T0 bs) with
  | mk q T =>
    rw [hq] at h i1 i2
    cases q with
    | some q => cases h
    | none =>
      simp only at h ⊢
      by_cases e : (T.1 10).length = 0
      · rw [if_pos e]
        exact ⟨T, rfl, i2.1, i1, e, i2.2.1, rfl⟩
      · rw [if_neg e] at h; cases h
