/-! THE REFERENCE: fault, the loop -/
theorem cWord_10 (T : CT) (p c : Nat) : (cWord T p c).1 10 = T.1 10 := by
  unfold cWord
  split <;> rfl
theorem cWord_n (T : CT) (p c : Nat) : ((cWord T p c).1 1).length = if T.2 11 = 0 then (T.1 1).length + 1 else (T.1 1).length := by
  unfold cWord
  split
  · simp (disch := omega) only [cAdd, cNew, vs, vn, List.length_append, List.length_cons, List.length_nil]
  · rfl
theorem cWord_11 (T : CT) (p c : Nat) (h : T.2 11 ≤ 1) : (cWord T p c).2 11 = 1 := by
  unfold cWord
  split
  · rfl
  · show T.2 11 = 1
    omega
theorem cOther_11 (T : CT) (c e : Nat) : (cOther T c e).2 11 = 0 := by
  unfold cOther
  simp only
  split <;> rfl
theorem isWd_not {c : Nat} (h : isWd c = true) : c ≠ 60 ∧ c ≠ 38 ∧ c ≠ 32 ∧ 32 < c ∧ c ≤ 126 := by
  unfold isWd isSm isUp isFg at h
  simp only [Bool.or_eq_true, Bool.and_eq_true, decide_eq_true_eq] at h
  omega
section
variable {L d : Nat} {z : zS} {bs : List Nat}
theorem m118_loop (hb : BB bs) : ∀ (r p : Nat) (T : CT) (f : Nat → Int32) (A : Nat → Nat → Int32) (Al : Nat → List Nat) (v5 v6 v7 v8 : Value), bs.length ≤ p + r → p ≤ bs.length → WfT p T → T.1 0 = bs → RF bs T f Al →
    ∃ f' A' Al', FrM [48] [173, 174] f A Al f' A' Al' ∧ xruns (O2 L) (zden L (d + 2)) 118 9 [.ref 136, .int (nI (T.1 10).length), .int (nI (T.1 1).length), .int (nI (T.2 11)), .int (nI p), v5, v6, v7, v8] [] (ms z f A Al) =
      match cgo bs r p T with
      | (some q, _) => some (nI q, ms z f' A' Al')
      | (none, T') => some (if (T'.1 10).length = 0 then -1 else nI bs.length, ms z f' A' Al') := by
  have hb2 := hb.2
  have fin : ∀ (p : Nat) (T : CT) (f : Nat → Int32) (A : Nat → Nat → Int32) (Al : Nat → List Nat) (v5 v6 v7 v8 : Value), bs.length ≤ p → p ≤ 3000 → WfT p T → RF bs T f Al → xruns (O2 L) (zden L (d + 2)) 118 9 [.ref 136, .int (nI (T.1 10).length), .int (nI (T.1 1).length), .int (nI (T.2 11)), .int (nI p), v5, v6, v7, v8] [] (ms z f A Al) = some (if (T.1 10).length = 0 then -1 else nI bs.length, ms z f A Al) := by
    intro p T f A Al v5 v6 v7 v8 hp hp2 w hR
    obtain ⟨h1, h2, h3, h4, hok⟩ := hR
    have w10 := w.2.2.2.2.2.2.2.2.2.2.1
    rw [B118_9, M1r, Option.bind_some, h1, iL (by omega) (by omega), if_pos hp, B118_295, iL (by omega) (by omega)]
    by_cases e : (T.1 10).length = 0
    · rw [if_pos (by omega), if_pos e, B118_306, B118_307]
    · rw [if_neg (by omega), if_neg e, B118_299, M1r, Option.bind_some, h1, B118_307]
  intro r
  induction r with
  | zero =>
    intro p T f A Al v5 v6 v7 v8 hr hp w hz hR
    exact ⟨f, A, Al, FrM.refl, fin p T f A Al v5 v6 v7 v8 (by omega) (by omega) w hR⟩
  | succ r ih =>
    intro p T f A Al v5 v6 v7 v8 hr hp w hz hR
    by_cases e : p < bs.length
    · have hR0 := hR
      obtain ⟨h1, h2, h3, h4, hok⟩ := hR
      obtain ⟨c, hc⟩ : ∃ c, bs[p]? = some c := ⟨_, List.getElem?_eq_getElem e⟩
      have c256 := hb.at hc
      have w1 := w.1
      have w11 := w.2.2.2.2.2.2.2.2.2.2.2.2.1
      have ecg : cgo bs (r + 1) p T = match cStep bs p T with
        | none => (some p, T)
        | some (n, T') => cgo bs r (p + n) T' := by
        conv => lhs; unfold cgo
        rw [if_pos e]
        cases cStep bs p T <;> rfl
      have st : ∀ v6 v7 v8, xruns (O2 L) (zden L (d + 2)) 118 9 [.ref 136, .int (nI (T.1 10).length), .int (nI (T.1 1).length), .int (nI (T.2 11)), .int (nI p), v5, v6, v7, v8] [] (ms z f A Al) = if c < 32 ∨ 126 < c then some (nI p, ms z f A Al) else xruns (O2 L) (zden L (d + 2)) 118 44 [.ref 136, .int (nI (T.1 10).length), .int (nI (T.1 1).length), .int (nI (T.2 11)), .int (nI p), .int (nI c), v6, v7, v8] [] (ms z f A Al) := by
        intro v6 v7 v8
        rw [B118_9, M1r, Option.bind_some, h1, iL (by omega) (by omega), if_neg (by omega), B118_18, J136_0, Option.bind_some, L137s h2 hb hc, Option.bind_some, iT (by omega) (by omega)]
        by_cases e1 : c < 32
        · rw [if_pos e1, B118_41, if_pos (Or.inl e1)]
        · rw [if_neg e1, B118_34, iL (by omega) (by omega)]
          by_cases e2 : c ≤ 126
          · rw [if_pos e2, if_neg (by omega)]
          · rw [if_neg e2, if_pos (by omega), B118_41]
      by_cases e1 : c < 32 ∨ 126 < c
      · refine ⟨f, A, Al, FrM.refl, ?_⟩
        have : cStep bs p T = none := by
          unfold cStep
          rw [hc]
          exact if_pos e1
        rw [st, if_pos e1, ecg, this]
      · rw [st, if_neg e1, B118_44, iE (by omega) (by omega)]
        by_cases e2 : c = 60
        · obtain ⟨f1, A1, Al1, y6, y7, y8, fr, ex, hR1⟩ := m118_tag (L := L) (d := d) (z := z) (A := A) (x5 := nI c) (v6 := v6) (v7 := v7) (v8 := v8) hb w e hR0
          have cs : cStep bs p T = if tagB bs p = true ∧ (opT bs p (T.1 10)).1 = true then some (tagL bs p, cTag T (opT bs p (T.1 10)).2 (isBr bs p)) else none := by
            unfold cStep
            rw [hc]
            simp only
            rw [if_neg e1, if_pos e2]
          rw [if_pos e2, ex]
          by_cases e3 : tagB bs p = true ∧ (opT bs p (T.1 10)).1 = true
          · rw [if_pos e3] at cs
            obtain ⟨w', n1, n2, hz'⟩ := cStep_wf w cs
            obtain ⟨f2, A2, Al2, fr2, ex2⟩ := ih (p + tagL bs p) _ f1 A1 Al1 (.int (nI c)) y6 y7 y8 (by omega) n2 w' (by rw [hz', hz]) (hR1 e3)
            refine ⟨f2, A2, Al2, fr.trans fr2, ?_⟩
            rw [if_pos e3, ecg, cs]
            refine Eq.trans ?_ ex2
            unfold cTag
            simp only [vs]
            by_cases e4 : isBr bs p = true
            · rw [if_pos e4, if_pos e4]; rfl
            · rw [if_neg e4, if_neg e4]; rfl
          · rw [if_neg e3] at cs
            refine ⟨f1, A1, Al1, fr, ?_⟩
            rw [if_neg e3, ecg, cs]
        · rw [if_neg e2, B118_223, iE (by omega) (by omega)]
          by_cases e3 : c = 38
          · have nw : ¬ isWd 38 = true := by decide
            have cs : cStep bs p T = if nameL bs p = 0 then none else some (nameL bs p, cOther T 38 (p + nameL bs p)) := by
              unfold cStep
              rw [hc]
              simp only
              rw [if_neg e1, if_neg e2, e3, if_neg nw, if_pos rfl]
            have nl : nameL bs p ≤ 5 := by
              unfold nameL
              split
              · omega
              · split <;> omega
            rw [if_pos e3, B118_230, m117 h2 h1 hb (by omega), Option.bind_some, iE (by omega) (by omega)]
            by_cases e4 : nameL bs p = 0
            · rw [if_pos e4] at cs
              refine ⟨f, A, Al, FrM.refl, ?_⟩
              rw [if_pos e4, B118_243, ecg, cs]
            · rw [if_neg e4] at cs
              obtain ⟨w', n1, n2, hz'⟩ := cStep_wf w cs
              obtain ⟨f2, A2, Al2, fr2, ex2⟩ := ih (p + nameL bs p) _ f A Al (.int (nI c)) (.int (nI (nameL bs p))) v7 v8 (by omega) n2 w' (by rw [hz', hz]) hR0
              refine ⟨f2, A2, Al2, fr2, ?_⟩
              rw [if_neg e4, B118_246, B118_292, nI_add, ecg, cs]
              rw [cOther_11] at ex2
              exact ex2
          · rw [if_neg e3, B118_258, ← ozs, m112 (fun k q => by cases q; exact c256), Option.bind_some, iB]
            by_cases e4 : isWd c = true
            · have cs : cStep bs p T = if T.2 11 = 0 ∧ 300 ≤ (T.1 1).length then none else some (1, cWord T p (lo c)) := by
                unfold cStep
                rw [hc]
                simp only
                rw [if_neg e1, if_neg e2, if_pos e4]
              have go : ¬ (T.2 11 = 0 ∧ 300 ≤ (T.1 1).length) → ∃ f' A' Al', FrM [48] [173, 174] f A Al f' A' Al' ∧ xruns (O2 L) (zden L (d + 2)) 118 283 [.ref 136, .int (nI (T.1 10).length), .int (nI ((cWord T p (lo c)).1 1).length), .int (nI (T.2 11)), .int (nI p), .int (oz (some c)), v6, v7, v8] [] (ms z f A Al) = match cgo bs (r + 1) p T with
                  | (some q, _) => some (nI q, ms z f' A' Al')
                  | (none, T') => some (if (T'.1 10).length = 0 then -1 else nI bs.length, ms z f' A' Al') := by
                intro e5
                rw [if_neg e5] at cs
                obtain ⟨w', n1, n2, hz'⟩ := cStep_wf w cs
                obtain ⟨f2, A2, Al2, fr2, ex2⟩ := ih (p + 1) _ f A Al (.int (nI c)) v6 v7 v8 (by omega) n2 w' (by rw [hz', hz]) (by
                  refine ⟨h1, h2, ?_, ?_, ?_⟩ <;> rw [cWord_10]
                  · exact h3
                  · exact h4
                  · exact hok)
                refine ⟨f2, A2, Al2, fr2, ?_⟩
                rw [B118_283, m112 (fun k q => by cases q; exact c256), Option.bind_some, B118_292, nI_add, ecg, cs]
                rw [cWord_10, cWord_11 _ _ _ w11] at ex2
                refine Eq.trans ?_ ex2
                show xruns (O2 L) (zden L (d + 2)) 118 9 [.ref 136, _, _, .int (bI (isWd c)), _, _, _, _, _] [] _ = _
                rw [e4]; rfl
              show ∃ f' A' Al', _ ∧ (if isWd c = true then _ else _) = _
              rw [if_pos e4, B118_266, iE (by omega) (by omega)]
              by_cases e5 : T.2 11 = 0
              · rw [if_pos e5, B118_270, iE (by omega) (by omega)]
                by_cases e6 : (T.1 1).length = 300
                · rw [if_pos ⟨e5, by omega⟩] at cs
                  refine ⟨f, A, Al, FrM.refl, ?_⟩
                  rw [if_pos e6, B118_277, ecg, cs]
                · obtain ⟨f2, A2, Al2, fr2, ex2⟩ := go (by omega)
                  rw [cWord_n, if_pos e5] at ex2
                  refine ⟨f2, A2, Al2, fr2, ?_⟩
                  rw [if_neg e6, B118_280, nI_add]
                  exact ex2
              · obtain ⟨f2, A2, Al2, fr2, ex2⟩ := go (by omega)
                rw [cWord_n, if_neg e5] at ex2
                refine ⟨f2, A2, Al2, fr2, ?_⟩
                rw [if_neg e5]
                exact ex2
            · have cs : cStep bs p T = some (1, cOther T c (p + 1)) := by
                unfold cStep
                rw [hc]
                simp only
                rw [if_neg e1, if_neg e2, if_neg e4, if_neg e3]
              obtain ⟨w', n1, n2, hz'⟩ := cStep_wf w cs
              obtain ⟨f2, A2, Al2, fr2, ex2⟩ := ih (p + 1) _ f A Al (.int (nI c)) v6 v7 v8 (by omega) n2 w' (by rw [hz', hz]) hR0
              refine ⟨f2, A2, Al2, fr2, ?_⟩
              show (if isWd c = true then _ else _) = _
              rw [if_neg e4, B118_283, m112 (fun k q => by cases q; exact c256), Option.bind_some, B118_292, nI_add, ecg, cs]
              rw [cOther_11] at ex2
              refine Eq.trans ?_ ex2
              show xruns (O2 L) (zden L (d + 2)) 118 9 [.ref 136, _, _, .int (bI (isWd c)), _, _, _, _, _] [] _ = _
              rw [show isWd c = false from by simpa using e4]; rfl
    · have : cgo bs (r + 1) p T = (none, T) := by
        unfold cgo
        rw [if_neg e]
      rw [this]
      exact ⟨f, A, Al, FrM.refl, fin p T f A Al v5 v6 v7 v8 (by omega) (by omega) w hR⟩
theorem m118 (hb : BB bs) {f : Nat → Int32} {A : Nat → Nat → Int32} {Al : Nat → List Nat} (h1 : f 1 = nI bs.length) (h2 : Al 137 = bs) : ∃ f' A' Al', FrM [48] [173, 174] f A Al f' A' Al' ∧ zden L (d + 3) 118 [.ref 136] (ms z f A Al) = some (match (cread bs).1 with | some q => nI q | none => -1, ms z f' A' Al') := by
  obtain ⟨A1, j1, j1'⟩ := ms_forget (z := z) (f := f) (A := A) (Al := Al) 173
  obtain ⟨A2, j2, j2'⟩ := ms_forget (z := z) (f := f) (A := A1) (Al := va_up Al 173 []) 174
  obtain ⟨f', A', Al', fr, ex⟩ := m118_loop (L := L) (d := d) (z := z) hb bs.length 0 (T0 bs) f A2 (va_up (va_up Al 173 []) 174 []) .null .null .null .null (by omega) (by omega) (WfT0 bs) rfl ⟨h1, h2, rfl, rfl, fun o q => by cases q⟩
  refine ⟨f', A', Al', ?_, ?_⟩
  · exact (((FrM.j j1').trans (FrM.a (by simp))).trans ((FrM.j j2').trans (FrM.a (by simp)))).trans fr
  · rw [N118 _ ob136, B118_0, j1, j2]
    refine Eq.trans ex ?_
    unfold cread
    cases hg : cgo bs bs.length 0 (T0 bs) with
    | mk q T' =>
      cases q with
      | some q => rfl
      | none =>
        simp only
        by_cases e : (T'.1 10).length = 0
        · rw [if_pos e, if_pos e]
        · rw [if_neg e, if_neg e]
end
