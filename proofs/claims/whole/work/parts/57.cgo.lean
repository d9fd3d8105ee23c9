/-! THE CLASS'S TEXT: what a step keeps; the whole reading -/
theorem WfT.new {p : Nat} {T : CT} (w : WfT p T) (hn : (T.1 1).length < 300) : WfT p (cNew T p) := by
  obtain ⟨w1, w2, w3, w4, w6, w7, w5, w8, w9, w9', w10, wo, w11, w12, w13, w14, w15⟩ := w
  refine ⟨?_, ?_, ?_, ?_, ?_, ?_, ?_, ?_, ?_, ?_, ?_, ?_, ?_, ?_, ?_, ?_, ?_⟩
  all_goals simp only [cNew]
  all_goals simp (disch := omega) only [vs, vn, List.length_append, List.length_cons, List.length_nil]
  all_goals first
    | omega
    | exact wo
    | skip
  all_goals by_cases e1 : (T.1 1).length = 0 <;> by_cases e2 : T.2 12 = 0 <;> by_cases e3 : T.2 13 = 0 <;> simp only [e1, e2, e3, not_true, not_false_iff, ne_eq, true_and, false_and, and_false, and_true, or_false, false_or, or_true, true_or, if_true, if_false, ↓reduceIte, List.length_append, List.length_cons, List.length_nil] <;> omega
theorem WfT.add {p c : Nat} {T : CT} (w : WfT p T) (h0 : (T.1 1).length ≠ 0) : WfT (p + 1) (cAdd T p c) := by
  obtain ⟨w1, w2, w3, w4, w6, w7, w5, w8, w9, w9', w10, wo, w11, w12, w13, w14, w15⟩ := w
  refine ⟨?_, ?_, ?_, ?_, ?_, ?_, ?_, ?_, ?_, ?_, ?_, ?_, ?_, ?_, ?_, ?_, ?_⟩
  all_goals simp only [cAdd]
  all_goals simp (disch := omega) only [vs, vn, List.length_append, List.length_cons, List.length_nil, List.length_set]
  all_goals first
    | omega
    | exact fun o q => Nat.lt_succ_of_lt (wo o q)
theorem WfT.word {p c : Nat} {T : CT} (w : WfT p T) (h0 : ¬ (T.2 11 = 0 ∧ 300 ≤ (T.1 1).length)) : WfT (p + 1) (cWord T p c) := by
  unfold cWord
  by_cases e : T.2 11 = 0
  · rw [if_pos e]
    have hn : (T.1 1).length < 300 := by omega
    refine (w.new hn).add ?_
    simp (disch := omega) only [cNew, vs, vn, List.length_append, List.length_cons]
    omega
  · rw [if_neg e]
    exact w.add (w.2.2.2.2.2.2.2.2.2.2.2.2.2.2.2.2 e)
theorem WfT.mono {p q : Nat} {T : CT} (w : WfT p T) (h : p ≤ q) : WfT q T := by
  obtain ⟨w1, w2, w3, w4, w6, w7, w5, w8, w9, w9', w10, wo, w11, w12, w13, w14, w15⟩ := w
  exact ⟨w1, w2, w3, w4, w6, w7, by omega, w8, w9, w9', w10, fun o q => by have := wo o q; omega, w11, w12, w13, w14, w15⟩
theorem WfT.other {p c e q : Nat} {T : CT} (w : WfT p T) (h : p ≤ q) : WfT q (cOther T c e) := by
  obtain ⟨w1, w2, w3, w4, w6, w7, w5, w8, w9, w9', w10, wo, w11, w12, w13, w14, w15⟩ := w
  refine ⟨w1, w2, w3, w4, w6, w7, by simp only [cOther]; omega, w8, w9, w9', w10, fun o q => by have := wo o q; omega, ?_, ?_, ?_, ?_, ?_⟩
  all_goals simp only [cOther]
  all_goals by_cases e1 : c = 32 <;> simp only [e1, not_true, not_false_iff, ne_eq, true_and, false_and, and_false, and_true, or_false, false_or, or_true, true_or, if_true, if_false, ↓reduceIte] <;> simp (disch := omega) only [vs, vn]
  all_goals first
    | omega
    | (split <;> omega)
    | exact fun q => absurd trivial q
theorem WfT.tag {p n : Nat} {T : CT} {bs : List Nat} (w : WfT p T) (h : 1 ≤ n) : WfT (p + n) (cTag T (opT bs p (T.1 10)).2 (isBr bs p)) := by
  obtain ⟨w1, w2, w3, w4, w6, w7, w5, w8, w9, w9', w10, wo, w11, w12, w13, w14, w15⟩ := w
  have hl := opT_len bs p (T.1 10) w10
  have hm := opT_mem (bs := bs) (p := p) wo
  refine ⟨w1, w2, w3, w4, w6, w7, by simp (disch := omega) only [cTag, vn]; omega, w8, w9, w9', ?_, fun o q => ?_, ?_, ?_, ?_, ?_, ?_⟩
  · simp only [cTag, vs]; exact hl
  · simp only [cTag, vs] at q
    have := hm o q
    omega
  all_goals simp only [cTag]
  all_goals by_cases e1 : isBr bs p = true <;> simp only [e1, not_true, not_false_iff, ne_eq, true_and, false_and, and_false, and_true, or_false, false_or, or_true, true_or, if_true, if_false, ↓reduceIte, Bool.false_eq_true] <;> (try simp (disch := omega) only [vs, vn]) <;> (try omega)
  all_goals first
    | exact fun q => absurd trivial q
    | exact fun q => w15 q
theorem tagL_in {bs : List Nat} {p : Nat} (h : tagB bs p = true) : 1 ≤ tagL bs p ∧ p + tagL bs p ≤ bs.length := by
  have hf := fst1_le bs p
  unfold tagL
  rw [if_pos h]
  unfold tagB at h
  simp only [Bool.and_eq_true, decide_eq_true_eq] at h
  obtain ⟨q, _⟩ := List.getElem?_eq_some_iff.mp h.2
  omega
theorem nameL_in {bs : List Nat} {p : Nat} (h : nameL bs p ≠ 0) : p + nameL bs p ≤ bs.length := by
  unfold nameL at h ⊢
  split
  · rename_i e
    obtain ⟨q, _⟩ := List.getElem?_eq_some_iff.mp e.2.2
    omega
  · rename_i e
    rw [if_neg e] at h
    split
    · rename_i e2
      obtain ⟨q, _⟩ := List.getElem?_eq_some_iff.mp e2.2.2.2
      omega
    · rename_i e2
      rw [if_neg e2] at h
      omega
theorem cStep_wf {bs : List Nat} {p n : Nat} {T T' : CT} (w : WfT p T) (e : cStep bs p T = some (n, T')) : WfT (p + n) T' ∧ 1 ≤ n ∧ p + n ≤ bs.length ∧ T'.1 0 = T.1 0 := by
  unfold cStep at e
  cases hc : bs[p]? with
  | none => rw [hc] at e; cases e
  | some c =>
    rw [hc] at e
    obtain ⟨hp, _⟩ := List.getElem?_eq_some_iff.mp hc
    simp only at e
    by_cases e1 : c < 32 ∨ 126 < c
    · rw [if_pos e1] at e; cases e
    · rw [if_neg e1] at e
      by_cases e2 : c = 60
      · rw [if_pos e2] at e
        by_cases e3 : tagB bs p = true ∧ (opT bs p (T.1 10)).1 = true
        · rw [if_pos e3] at e
          cases e
          have := tagL_in e3.1
          exact ⟨w.tag (by omega), by omega, by omega, rfl⟩
        · rw [if_neg e3] at e; cases e
      · rw [if_neg e2] at e
        by_cases e3 : isWd c = true
        · rw [if_pos e3] at e
          by_cases e4 : T.2 11 = 0 ∧ 300 ≤ (T.1 1).length
          · rw [if_pos e4] at e; cases e
          · rw [if_neg e4] at e
            cases e
            refine ⟨w.word e4, by omega, by omega, ?_⟩
            unfold cWord
            split <;> rfl
        · rw [if_neg e3] at e
          by_cases e4 : c = 38
          · rw [if_pos e4] at e
            by_cases e5 : nameL bs p = 0
            · rw [if_pos e5] at e; cases e
            · rw [if_neg e5] at e
              cases e
              have := nameL_in e5
              exact ⟨w.other (by omega), by omega, by omega, rfl⟩
          · rw [if_neg e4] at e
            cases e
            exact ⟨w.other (by omega), by omega, by omega, rfl⟩
def cgo (bs : List Nat) : Nat → Nat → CT → Option Nat × CT
  | 0, _, T => (none, T)
  | r + 1, p, T => if p < bs.length then (match cStep bs p T with
    | none => (some p, T)
    | some (n, T') => cgo bs r (p + n) T') else (none, T)
def T0 (bs : List Nat) : CT := (fun k => if k = 0 then bs else [], fun _ => 0)
def cEnd (T : CT) : CT := (if (T.1 1).length = 0 then T.1 else va_up T.1 9 (T.1 9 ++ [T.2 15]), T.2)
def cread (bs : List Nat) : Option Nat × CT := match cgo bs bs.length 0 (T0 bs) with
  | (some p, T) => (some p, T)
  | (none, T) => if (T.1 10).length = 0 then (none, cEnd T) else (some bs.length, T)
theorem WfT0 (bs : List Nat) : WfT 0 (T0 bs) := by
  refine ⟨?_, ?_, ?_, ?_, ?_, ?_, ?_, ?_, ?_, ?_, ?_, ?_, ?_, ?_, ?_, ?_, ?_⟩ <;> simp [T0]
theorem putT_congr {z : zS} {t : Nat} {T T' : CT} (h1 : ∀ k, k ≤ 10 → T.1 k = T'.1 k) (h2 : ∀ f, 11 ≤ f → f ≤ 15 → T.2 f = T'.2 f) : putT z t T = putT z t T' := by
  unfold putT
  refine Prod.ext (funext fun a => ?_) (Prod.ext (funext fun a => funext fun f => ?_) rfl)
  · simp only
    split
    · rw [h1 10 (by omega)]
    · split
      · rw [h1 _ (by omega)]
      · rfl
  · simp only
    split
    · rw [h2 f (by omega) (by omega)]
    · rfl
section
variable {L d : Nat} {z : zS} {t : Nat} {T : CT} {bs : List Nat} {p : Nat}
theorem putT_2 (h : isT t) : (putT z t T).1 2 = z.1 2 := by
  unfold putT
  simp only
  rw [if_neg (by rcases h with rfl | rfl <;> omega), if_neg (by rcases h with rfl | rfl <;> omega)]
theorem c79 (h : isT t) (hz : z.1 2 = bs.map nI) (hb : BB bs) : zden L (d + 4) 79 [.ref t, .ref 2] (putT z t T) = some (0, putT z t (T0 bs)) := by
  rw [N79 _ _ (obT h), B79_0, R6_0 h, Option.bind_some, N65 (W6_0 h).1 rfl (by rcases h with rfl | rfl <;> rfl), Option.bind_some, putT_2 h, hz, (W6_0 h).2, List.take_of_length_le (by rw [List.length_map]; exact hb.2), sT0]
  have tg : ∀ z : zS, (O2 L).2.1 z (t + 21) 5 0 = some (t + 22) := fun z => R5_0 (isG_of h) z
  simp only [R6_0 h, R6_1 h, R6_2 h, R6_3 h, R6_4 h, R6_5 h, R6_6 h, R6_7 h, R6_8 h, R6_9 h, R6_10 h, T11r h, T12r h, T13r h, T14r h, T15r h, T11p h, T12p h, T13p h, T14p h, T15p h, T0s h, T1s h, T2s h, T3s h, T4s h, T5s h, T6s h, T7s h, T8s h, T9s h, T10s h, T0g h, T1g h, T2g h, T3g h, T4g h, T5g h, T6g h, T7g h, T8g h, T9g h, T10g h, T2w h, T7w h, T1a h, T2a h, T3a h, T4a h, T5a h, T6a h, T7a h, T8a h, T9a h, T10a h, T1c h, T2c h, T3c h, T4c h, T5c h, T6c h, T7c h, T8c h, T9c h, T10c h, Option.bind_some, iO0, iO1, nI_add, List.length_map, true_or, or_true, if_true, ↓reduceIte, Nat.reduceEqDiff, Nat.reduceLeDiff, Nat.reduceLT, Nat.reduceAdd, Nat.reduceSub, tg]
  refine congrArg some (congrArg (Prod.mk 0) (putT_congr (fun k hk => ?_) (fun f h1 h2 => ?_)))
  · have : k = 0 ∨ k = 1 ∨ k = 2 ∨ k = 3 ∨ k = 4 ∨ k = 5 ∨ k = 6 ∨ k = 7 ∨ k = 8 ∨ k = 9 ∨ k = 10 := by omega
    rcases this with rfl | rfl | rfl | rfl | rfl | rfl | rfl | rfl | rfl | rfl | rfl <;> rfl
  · have : f = 11 ∨ f = 12 ∨ f = 13 ∨ f = 14 ∨ f = 15 := by omega
    rcases this with rfl | rfl | rfl | rfl | rfl <;> rfl
theorem c78_loop (h : isT t) (hb : BB bs) : ∀ (r u p : Nat) (T : CT) (v : Value), u + r = bs.length → u ≤ p → p ≤ bs.length → WfT p T → T.1 0 = bs →
    ∃ p' u' v', xruns (O2 L) (zden L (d + 5)) 78 9 [.ref t, .ref 2, .int (nI p), .int (nI u), v] [] (putT z t T) = match cgo bs r p T with
      | (some q, T') => some (nI q, putT z t T')
      | (none, T') => xruns (O2 L) (zden L (d + 5)) 78 56 [.ref t, .ref 2, .int p', .int u', v'] [] (putT z t T') := by
  have hb2 := hb.2
  intro r
  induction r with
  | zero =>
    intro u p T v hu hp hp2 w hz
    refine ⟨nI p, nI u, v, ?_⟩
    rw [B78_9, R6_0 h, Option.bind_some, T0s h, Option.bind_some, hz, iL (by omega) (by omega), if_pos (by omega)]
    rfl
  | succ r ih =>
    intro u p T v hu hp hp2 w hz
    by_cases e : p < bs.length
    · have e80 := c80 (L := L) (d := d) (z := z) h hz hb w e
      cases hs : cStep bs p T with
      | none =>
        refine ⟨nI p, nI u, v, ?_⟩
        rw [hs] at e80
        rw [B78_9, R6_0 h, Option.bind_some, T0s h, Option.bind_some, hz, iL (by omega) (by omega), if_neg (by omega), B78_20, R6_0 h, Option.bind_some, T0s h, Option.bind_some, hz, iL (by omega) (by omega), if_neg (by omega), B78_31, e80]
        simp only [Option.bind_some]
        rw [if_pos trivial, B78_43]
        unfold cgo
        rw [if_pos e, hs]
      | some nT =>
        obtain ⟨n, T'⟩ := nT
        rw [hs] at e80
        obtain ⟨w', n1, n2, hz'⟩ := cStep_wf w hs
        obtain ⟨p', u', v', e2⟩ := ih (u + 1) (p + n) T' (.int (nI n)) (by omega) (by omega) n2 w' (by rw [hz', hz])
        refine ⟨p', u', v', ?_⟩
        rw [B78_9, R6_0 h, Option.bind_some, T0s h, Option.bind_some, hz, iL (by omega) (by omega), if_neg (by omega), B78_20, R6_0 h, Option.bind_some, T0s h, Option.bind_some, hz, iL (by omega) (by omega), if_neg (by omega), B78_31, e80]
        simp only [Option.bind_some]
        rw [iE (by omega) (by omega), if_neg (by omega), B78_45, nI_add, nI_add, e2]
        conv => rhs; unfold cgo
        rw [if_pos e, hs]
    · refine ⟨nI p, nI u, v, ?_⟩
      have : cgo bs (r + 1) p T = (none, T) := by
        unfold cgo
        rw [if_neg e]
      rw [B78_9, R6_0 h, Option.bind_some, T0s h, Option.bind_some, hz, iL (by omega) (by omega), if_neg (by omega), B78_20, R6_0 h, Option.bind_some, T0s h, Option.bind_some, hz, iL (by omega) (by omega), if_pos (by omega), this]
theorem cgo_wf {bs : List Nat} : ∀ (r p : Nat) (T : CT), WfT p T → p ≤ bs.length → T.1 0 = bs → WfT bs.length (cgo bs r p T).2 ∧ (cgo bs r p T).2.1 0 = bs ∧ ∀ q, (cgo bs r p T).1 = some q → q < bs.length := by
  intro r
  induction r with
  | zero => intro p T w hp hz; exact ⟨w.mono hp, hz, fun q h => by cases h⟩
  | succ r ih =>
    intro p T w hp hz
    unfold cgo
    split
    · rename_i e
      cases hs : cStep bs p T with
      | none => exact ⟨w.mono hp, hz, fun q h => by cases h; exact e⟩
      | some nT =>
        obtain ⟨n, T'⟩ := nT
        obtain ⟨w', n1, n2, hz'⟩ := cStep_wf w hs
        exact ih (p + n) T' w' n2 (by rw [hz', hz])
    · exact ⟨w.mono hp, hz, fun q h => by cases h⟩
theorem c78 (h : isT t) (hz : z.1 2 = bs.map nI) (hb : BB bs) : zden L (d + 6) 78 [.ref t, .ref 2] (putT z t T) = some (match (cread bs).1 with | some q => nI q | none => -1, putT z t (cread bs).2) := by
  have hb2 := hb.2
  have tg : ∀ z : zS, (O2 L).2.1 z (t + 21) 5 0 = some (t + 22) := fun z => R5_0 (isG_of h) z
  obtain ⟨p', u', v', e⟩ := c78_loop (L := L) (d := d) (z := z) h hb bs.length 0 0 (T0 bs) .null (by omega) (by omega) (by omega) (WfT0 bs) rfl
  obtain ⟨w, hz', _⟩ := cgo_wf (bs := bs) bs.length 0 (T0 bs) (WfT0 bs) (by omega) rfl
  rw [N78 _ _ (obT h), B78_0, c79 h hz hb, Option.bind_some]
  show xruns (O2 L) (zden L (d + 5)) 78 9 [.ref t, .ref 2, .int (nI 0), .int (nI 0), .null] [] (putT z t (T0 bs)) = _
  rw [e]
  unfold cread
  cases hg : cgo bs bs.length 0 (T0 bs) with
  | mk f T' =>
    rw [hg] at w hz'
    have w : WfT bs.length T' := w
    obtain ⟨w1, w2, w3, w4, w6, w7, w5, w8, w9, w9', w10, wo, w11, w12, w13, w14, w15⟩ := w
    cases f with
    | some q => rfl
    | none =>
      simp only
      rw [B78_56, R6_10 h, Option.bind_some, tg, Option.bind_some, T10s h, Option.bind_some, iL (by omega) (by omega)]
      by_cases e1 : (T'.1 10).length = 0
      · rw [if_pos (by omega), if_pos e1, B78_77, c74 h, Option.bind_some, iL (by omega) (by omega)]
        unfold cEnd
        by_cases e2 : (T'.1 1).length = 0
        · rw [if_pos (by omega), B78_95, if_pos e2]
        · rw [if_neg (by omega), B78_84, R6_9 h, Option.bind_some, T15r h, Option.bind_some, T9a h _ (by have := w9' e2; omega), Option.bind_some, B78_95, if_neg e2]
      · rw [if_neg (by omega), if_neg e1, B78_69, R6_0 h, Option.bind_some, T0s h, Option.bind_some, hz']
end
