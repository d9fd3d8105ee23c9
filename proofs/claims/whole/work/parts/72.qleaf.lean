/-! THE CLASS'S QUERY: phrases, room, leaves -/
def qRoom (qb : List Nat) (Q : CT) : Option Nat × CT :=
  if qb[Q.2 10]? = some 47 then (if qb[Q.2 10 + 1]?.any isFg = true then (some (qb.getD (Q.2 10 + 1) 0 - 48), qAt Q (Q.2 10 + 2)) else (none, qAt Q (Q.2 10 + 1))) else (some 0, Q)
def qSkip (qb : List Nat) (Q : CT) : CT := qAt Q (Q.2 10 + brun qb (Q.2 10))
def qPh (qb : List Nat) : Nat → Nat → CT → Bool × CT
  | 0, _, Q => (false, Q)
  | r + 1, n, Q => if qb[(qSkip qb Q).2 10]? = some 34 ∧ 0 < n then (true, qAt (qSkip qb Q) ((qSkip qb Q).2 10 + 1))
    else if n = 6 then (false, qSkip qb Q)
    else if (qTerm qb (qSkip qb Q)).1 = true then (if qb[(qTerm qb (qSkip qb Q)).2.2 10]? = some 32 ∨ qb[(qTerm qb (qSkip qb Q)).2.2 10]? = some 34 then qPh qb r (n + 1) (qTerm qb (qSkip qb Q)).2 else (false, (qTerm qb (qSkip qb Q)).2))
    else (false, (qTerm qb (qSkip qb Q)).2)
def qPhrase (qb : List Nat) (Q : CT) : Bool × CT := qPh qb 7 0 (qAt Q (Q.2 10 + 1))
def qAdd (F r : Nat) (Q : CT) : CT := (va_up (va_up (va_up Q.1 4 (Q.1 4 ++ [F])) 5 (Q.1 5 ++ [(Q.1 1).length - F])) 6 (Q.1 6 ++ [r]), Q.2)
def qLeaf (qb : List Nat) (Q : CT) (c : Nat) : Bool × CT :=
  if c = 34 then (if (qPhrase qb Q).1 = true then (match (qRoom qb (qPhrase qb Q).2).1 with
      | some r => (true, qAdd (Q.1 1).length r (qRoom qb (qPhrase qb Q).2).2)
      | none => (false, (qRoom qb (qPhrase qb Q).2).2)) else (false, (qPhrase qb Q).2))
  else if (qTerm qb Q).1 = true then (true, qAdd (Q.1 1).length 0 (qTerm qb Q).2) else (false, (qTerm qb Q).2)
/-- what a query's reading keeps of its bytes and terms -/
def qOk (qb : List Nat) (Q : CT) : Prop := Q.1 0 = qb ∧ Q.2 10 ≤ qb.length ∧ (Q.1 2).length = (Q.1 1).length ∧ (Q.1 3).length = (Q.1 1).length
/-- only terms and the place are touched -/
def qFr (Q Q' : CT) : Prop := (∀ k, k = 0 ∨ 4 ≤ k → Q'.1 k = Q.1 k) ∧ (∀ f, f ≠ 10 → Q'.2 f = Q.2 f)
theorem qFr.refl (Q : CT) : qFr Q Q := ⟨fun _ _ => rfl, fun _ _ => rfl⟩
theorem qFr.trans {Q Q' Q'' : CT} (h : qFr Q Q') (h' : qFr Q' Q'') : qFr Q Q'' := ⟨fun k q => (h'.1 k q).trans (h.1 k q), fun f q => (h'.2 f q).trans (h.2 f q)⟩
theorem qFr.at (Q : CT) (p : Nat) : qFr Q (qAt Q p) := ⟨fun _ _ => rfl, fun f q => vn _ _ q⟩
theorem qOk.at {qb : List Nat} {Q : CT} (h : qOk qb Q) {p : Nat} (hp : p ≤ qb.length) : qOk qb (qAt Q p) := ⟨h.1, by show va_up Q.2 10 p 10 ≤ _; rw [vs]; exact hp, h.2.2.1, h.2.2.2⟩
theorem qAt_10 (Q : CT) (p : Nat) : (qAt Q p).2 10 = p := by
  show va_up Q.2 10 p 10 = p
  exact vs _ _ _
theorem qSkip_ok {qb : List Nat} {Q : CT} (h : qOk qb Q) : qOk qb (qSkip qb Q) := by
  refine h.at ?_
  have := brun_in qb qb.length (Q.2 10) (by omega)
  have := h.2.1
  omega
theorem qSkip_fr (qb : List Nat) (Q : CT) : qFr Q (qSkip qb Q) := qFr.at _ _
theorem qTerm_ok {qb : List Nat} {Q : CT} (h : qOk qb Q) : qOk qb (qTerm qb Q).2 ∧ ((qTerm qb Q).2.1 1).length ≤ (Q.1 1).length + 1 ∧ (qFr Q (qTerm qb Q).2 ∧ (Q.1 1).length ≤ ((qTerm qb Q).2.1 1).length) ∧ ((qTerm qb Q).1 = true → ((qTerm qb Q).2.1 1).length = (Q.1 1).length + 1 ∧ Q.2 10 < (qTerm qb Q).2.2 10) := by
  obtain ⟨h1, h2, h3, h4⟩ := h
  have hin := wrun_in qb (Q.2 10)
  unfold qTerm
  split
  · exact ⟨⟨h1, h2, h3, h4⟩, by simp, ⟨qFr.refl _, Nat.le_refl _⟩, fun q => by cases q⟩
  · split
    · refine ⟨(show qOk qb Q from ⟨h1, h2, h3, h4⟩).at (by omega), by show (Q.1 1).length ≤ _; omega, ⟨qFr.at _ _, Nat.le_refl _⟩, fun q => by cases q⟩
    · rename_i e0 e1
      refine ⟨⟨h1, ?_, ?_, ?_⟩, ?_, ⟨⟨?_, ?_⟩, ?_⟩, ?_⟩
      · simp only [vs]
        split
        · omega
        · rename_i e2
          have : ∃ c, qb[Q.2 10 + wrun qb (Q.2 10)]? = some c := by
            unfold qKind at e2
            split at e2
            · rename_i q; exact ⟨_, q⟩
            · split at e2
              · rename_i q; exact ⟨_, q⟩
              · exact absurd rfl e2
          obtain ⟨c, hc⟩ := this
          obtain ⟨q, _⟩ := List.getElem?_eq_some_iff.mp hc
          omega
      · simp (disch := omega) only [vs, vn, List.length_append, List.length_cons, List.length_nil]; omega
      · simp (disch := omega) only [vs, vn, List.length_append, List.length_cons, List.length_nil]; omega
      · simp (disch := omega) only [vs, vn, List.length_append, List.length_cons, List.length_nil]; omega
      · intro k hk
        simp (disch := omega) only [vn]
      · intro f hf
        exact vn _ _ hf
      · simp (disch := omega) only [vs, vn, List.length_append, List.length_cons, List.length_nil]; omega
      · intro _
        constructor
        · simp (disch := omega) only [vs, vn, List.length_append, List.length_cons, List.length_nil]
        · simp only [vs]
          omega
theorem qPh_ok {qb : List Nat} : ∀ (r n : Nat) (Q : CT), n + r = 7 → qOk qb Q → qOk qb (qPh qb r n Q).2 ∧ qFr Q (qPh qb r n Q).2 ∧ ((qPh qb r n Q).2.1 1).length ≤ (Q.1 1).length + (6 - n) ∧ (Q.1 1).length ≤ ((qPh qb r n Q).2.1 1).length ∧ ((qPh qb r n Q).1 = true → (Q.1 1).length + 1 ≤ ((qPh qb r n Q).2.1 1).length + n ∧ Q.2 10 < (qPh qb r n Q).2.2 10) := by
  intro r
  induction r with
  | zero => intro n Q hn h; exact ⟨h, qFr.refl _, by show (Q.1 1).length ≤ _; omega, Nat.le_refl _, fun q => by cases q⟩
  | succ r ih =>
    intro n Q hn h
    have hs := qSkip_ok h
    have fs := qSkip_fr qb Q
    have ls : ((qSkip qb Q).1 1).length = (Q.1 1).length := rfl
    have as : Q.2 10 ≤ (qSkip qb Q).2 10 := by unfold qSkip; rw [qAt_10]; omega
    obtain ⟨t1, t2, t3, t4⟩ := qTerm_ok hs
    unfold qPh
    split
    · rename_i e
      obtain ⟨q, _⟩ := List.getElem?_eq_some_iff.mp e.1
      refine ⟨hs.at (by omega), fs.trans (qFr.at _ _), by show ((qSkip qb Q).1 1).length ≤ _; omega, by show _ ≤ ((qSkip qb Q).1 1).length; omega, fun _ => ⟨by show _ ≤ ((qSkip qb Q).1 1).length + n; omega, ?_⟩⟩
      rw [qAt_10]; omega
    · split
      · exact ⟨hs, fs, by show ((qSkip qb Q).1 1).length ≤ _; omega, by show _ ≤ ((qSkip qb Q).1 1).length; omega, fun q => by cases q⟩
      · split
        · rename_i e1
          have t4' := t4 e1
          split
          · obtain ⟨i1, i2, i3, i4, i5⟩ := ih (n + 1) _ (by omega) t1
            exact ⟨i1, (fs.trans t3.1).trans i2, by omega, by omega, fun q => ⟨by have := (i5 q).1; omega, by have := (i5 q).2; omega⟩⟩
          · exact ⟨t1, fs.trans t3.1, by simp only; omega, by simp only; omega, fun q => by cases q⟩
        · exact ⟨t1, fs.trans t3.1, by simp only; omega, by simp only; omega, fun q => by cases q⟩
section
variable {L d : Nat} {z : zS} {t : Nat} {Q : CT} {qb : List Nat}
theorem c49 (h : isQ t) (ok : qOk qb Q) (hb : BB qb) : zden L (d + 2) 49 [.ref t] (putQ z t Q) = some (0, putQ z t (qSkip qb Q)) := by
  have hb2 := hb.2
  have lp : ∀ (r : Nat) (Q : CT), qOk qb Q → qb.length ≤ Q.2 10 + r → xruns (O2 L) (zden L (d + 1)) 49 0 [.ref t] [] (putQ z t Q) = some (0, putQ z t (qSkip qb Q)) := by
    intro r
    induction r with
    | zero =>
      intro Q ok hr
      have : qSkip qb Q = Q := by
        unfold qSkip qAt
        rw [brun_0 (by rw [List.getElem?_eq_none (by omega)]; exact fun q => by cases q), Nat.add_zero, vi]
      rw [B49_0, Q10r h, Option.bind_some, R3_0 h, Option.bind_some, Q0s h, Option.bind_some, ok.1, iL (by omega) (by have := ok.2.1; omega), if_pos (by omega), B49_43, this]
    | succ r ih =>
      intro Q ok hr
      have o2 := ok.2.1
      by_cases e : qb.length ≤ Q.2 10
      · have : qSkip qb Q = Q := by
          unfold qSkip qAt
          rw [brun_0 (by rw [List.getElem?_eq_none (by omega)]; exact fun q => by cases q), Nat.add_zero, vi]
        rw [B49_0, Q10r h, Option.bind_some, R3_0 h, Option.bind_some, Q0s h, Option.bind_some, ok.1, iL (by omega) (by omega), if_pos (by omega), B49_43, this]
      · rw [B49_0, Q10r h, Option.bind_some, R3_0 h, Option.bind_some, Q0s h, Option.bind_some, ok.1, iL (by omega) (by omega), if_neg (by omega), B49_14, R3_0 h, Option.bind_some, Q10r h, Option.bind_some, q56 h ok.1 hb (by omega), Option.bind_some, iZ hb (by omega)]
        by_cases e2 : qb[Q.2 10]? = some 32
        · rw [if_pos e2, B49_30, Q10r h, Option.bind_some, nI_add, Q10p h, Option.bind_some]
          have := ih (qAt Q (Q.2 10 + 1)) (ok.at (by omega)) (by rw [qAt_10]; omega)
          refine Eq.trans this ?_
          have e3 : qSkip qb (qAt Q (Q.2 10 + 1)) = qSkip qb Q := by
            unfold qSkip
            rw [qAt_10, brun_s e2]
            unfold qAt
            refine Prod.ext rfl (funext fun f => ?_)
            by_cases q : f = 10
            · subst q; simp only [vs]; omega
            · simp only [vn _ _ q]
          rw [e3]
        · have : qSkip qb Q = Q := by
            unfold qSkip qAt
            rw [brun_0 e2, Nat.add_zero, vi]
          rw [if_neg e2, B49_43, this]
  rw [N49 _ (obQ h)]
  exact lp qb.length Q ok (by omega)
theorem c50 (h : isQ t) (ok : qOk qb Q) (hb : BB qb) : zden L (d + 2) 50 [.ref t] (putQ z t Q) = some (bI (decide (qb[Q.2 10]? = some 32 ∨ qb[Q.2 10]? = some 34)), putQ z t Q) := by
  have hb2 := hb.2
  have o2 := ok.2.1
  rw [N50 _ (obQ h), B50_0, R3_0 h, Option.bind_some, Q10r h, Option.bind_some, q56 h ok.1 hb (by omega), Option.bind_some, iZ hb (by omega)]
  by_cases e : qb[Q.2 10]? = some 32
  · rw [if_pos e, B50_32, B50_37, iO1, decide_eq_true (Or.inl e)]; rfl
  · rw [if_neg e, B50_16, R3_0 h, Option.bind_some, Q10r h, Option.bind_some, q56 h ok.1 hb (by omega), Option.bind_some, iZ hb (by omega)]
    by_cases e2 : qb[Q.2 10]? = some 34
    · rw [if_pos e2, B50_32, B50_37, iO1, decide_eq_true (Or.inr e2)]; rfl
    · rw [if_neg e2, B50_36, B50_37, iO0, decide_eq_false (fun q => q.elim e e2)]; rfl
theorem c53 (h : isQ t) (ok : qOk qb Q) (hb : BB qb) : zden L (d + 2) 53 [.ref t] (putQ z t Q) = some (match (qRoom qb Q).1 with | some r => nI r | none => -1, putQ z t (qRoom qb Q).2) := by
  have hb2 := hb.2
  have o2 := ok.2.1
  rw [N53 _ (obQ h), B53_0, R3_0 h, Option.bind_some, Q10r h, Option.bind_some, q56 h ok.1 hb (by omega), Option.bind_some, iZ hb (by omega)]
  unfold qRoom
  by_cases e : qb[Q.2 10]? = some 47
  · rw [if_pos e, if_pos e, B53_18, Q10r h, Option.bind_some, nI_add, Q10p h, Option.bind_some, R3_0 h, Option.bind_some, Q10r h, Option.bind_some]
    show ((zden L (d + 1) 56 [.ref (t + 1), .int (nI (va_up Q.2 10 (Q.2 10 + 1) 10))] (putQ z t (qAt Q (Q.2 10 + 1)))).bind _) = _
    rw [vs, q56 h (Q := qAt Q (Q.2 10 + 1)) ok.1 hb (by omega), Option.bind_some, c106 (fun k => hb.at), Option.bind_some, iB]
    by_cases e2 : qb[Q.2 10 + 1]?.any isFg = true
    · cases hc : qb[Q.2 10 + 1]? with
      | none => rw [hc] at e2; cases e2
      | some c =>
        rw [hc] at e2
        have c48 : 48 ≤ c := by
          have : isFg c = true := e2
          unfold isFg at this
          simp only [Bool.and_eq_true, decide_eq_true_eq] at this
          exact this.1
        rw [if_pos e2, if_pos e2, B53_47, R3_0 h, Option.bind_some, Q10r h, Option.bind_some, qAt_10]
        show ((zden L (d + 1) 56 [.ref (t + 1), .int (nI (Q.2 10 + 1))] (putQ z t (qAt Q (Q.2 10 + 1)))).bind _) = _
        rw [q56 h (Q := qAt Q (Q.2 10 + 1)) ok.1 hb (by omega), Option.bind_some, Q10r h, Option.bind_some, qAt_10, nI_add, Q10p h, Option.bind_some, hc]
        show some (nI c - nI 48, _) = some (nI (qb.getD (Q.2 10 + 1) 0 - 48), _)
        rw [gDo hc, pk_sub c48]
        refine congrArg some (congrArg (Prod.mk _) (congrArg (putQ z t) (Prod.ext rfl (funext fun f => ?_))))
        show va_up (va_up Q.2 10 _) 10 _ f = va_up Q.2 10 _ f
        by_cases q : f = 10
        · subst q; rw [vs, vs]
        · rw [vn _ _ q, vn _ _ q, vn _ _ q]
    · rw [if_neg e2, if_neg e2, B53_45]
  · rw [if_neg e, if_neg e, B53_16]
theorem c48_loop (h : isQ t) (hb : BB qb) : ∀ (r n : Nat) (Q : CT), qOk qb Q → n + r = 7 → (Q.1 1).length + (6 - n) ≤ 72 → xruns (O2 L) (zden L (d + 4)) 48 12 [.ref t, .int (nI n)] [] (putQ z t Q) = some (bI (qPh qb r n Q).1, putQ z t (qPh qb r n Q).2) := by
  have hb2 := hb.2
  intro r
  induction r with
  | zero =>
    intro n Q ok hn hl
    rw [B48_12, iT (by omega) (by omega), if_pos (by omega), B48_82, iO0]; rfl
  | succ r ih =>
    intro n Q ok hn hl
    have hs := qSkip_ok ok
    have o2 := hs.2.1
    have ls : ((qSkip qb Q).1 1).length = (Q.1 1).length := rfl
    obtain ⟨t1, t2, t3, t4⟩ := qTerm_ok hs
    have go : xruns (O2 L) (zden L (d + 4)) 48 54 [.ref t, .int (nI n)] [] (putQ z t (qSkip qb Q)) = if n = 6 then some (bI false, putQ z t (qSkip qb Q)) else if (qTerm qb (qSkip qb Q)).1 = true then (if qb[(qTerm qb (qSkip qb Q)).2.2 10]? = some 32 ∨ qb[(qTerm qb (qSkip qb Q)).2.2 10]? = some 34 then some (bI (qPh qb r (n + 1) (qTerm qb (qSkip qb Q)).2).1, putQ z t (qPh qb r (n + 1) (qTerm qb (qSkip qb Q)).2).2) else some (bI false, putQ z t (qTerm qb (qSkip qb Q)).2)) else some (bI false, putQ z t (qTerm qb (qSkip qb Q)).2) := by
      rw [B48_54, iE (by omega) (by omega)]
      by_cases e1 : n = 6
      · rw [if_pos e1, if_pos e1, B48_74, iO0]; rfl
      · rw [if_neg e1, if_neg e1, B48_60, c51 h hs.1 hb hs.2.1 (by omega) hs.2.2.1 hs.2.2.2, Option.bind_some, iB]
        by_cases e2 : (qTerm qb (qSkip qb Q)).1 = true
        · rw [if_pos e2, if_pos e2, B48_67, c50 h t1 hb, Option.bind_some, iB]
          by_cases e3 : qb[(qTerm qb (qSkip qb Q)).2.2 10]? = some 32 ∨ qb[(qTerm qb (qSkip qb Q)).2.2 10]? = some 34
          · rw [if_pos (decide_eq_true e3), if_pos e3, B48_76, nI_add]
            exact ih (n + 1) _ t1 (by omega) (by have := (t4 e2).1; omega)
          · rw [if_neg (by rw [decide_eq_false e3]; decide), if_neg e3, B48_74, iO0]; rfl
        · rw [if_neg e2, if_neg e2, B48_74, iO0]; rfl
    rw [B48_12, iT (by omega) (by omega), if_neg (by omega), B48_18, c49 h ok hb, Option.bind_some, R3_0 h, Option.bind_some, Q10r h, Option.bind_some, q56 h hs.1 hb (by omega), Option.bind_some, iZ hb (by omega)]
    unfold qPh
    by_cases e : qb[(qSkip qb Q).2 10]? = some 34
    · rw [if_pos e, B48_38, iL (by omega) (by omega)]
      by_cases e0 : n = 0
      · rw [if_pos (by omega), if_neg (by omega)]
        refine Eq.trans go ?_
        split
        · rfl
        · split
          · split <;> rfl
          · rfl
      · rw [if_neg (by omega), if_pos ⟨e, by omega⟩, B48_42, Q10r h, Option.bind_some, nI_add, Q10p h, Option.bind_some, iO1]; rfl
    · rw [if_neg e, if_neg (fun q => e q.1)]
      refine Eq.trans go ?_
      split
      · rfl
      · split
        · split <;> rfl
        · rfl
theorem c48 (h : isQ t) (ok : qOk qb Q) (hb : BB qb) (hp : Q.2 10 < qb.length) (hl : (Q.1 1).length ≤ 66) : zden L (d + 5) 48 [.ref t] (putQ z t Q) = some (bI (qPhrase qb Q).1, putQ z t (qPhrase qb Q).2) := by
  rw [N48 _ (obQ h), B48_0, Q10r h, Option.bind_some, nI_add, Q10p h, Option.bind_some]
  exact c48_loop h hb 7 0 (qAt Q (Q.2 10 + 1)) (ok.at (by omega)) (by omega) (by show (Q.1 1).length + _ ≤ _; omega)
theorem qRoom_ok {qb : List Nat} {Q : CT} (h : qOk qb Q) : qOk qb (qRoom qb Q).2 ∧ qFr Q (qRoom qb Q).2 ∧ (qRoom qb Q).2.1 1 = Q.1 1 := by
  unfold qRoom
  split
  · rename_i e
    obtain ⟨q, _⟩ := List.getElem?_eq_some_iff.mp e
    split
    · rename_i e2
      cases hc : qb[Q.2 10 + 1]? with
      | none => rw [hc] at e2; cases e2
      | some c =>
        obtain ⟨q2, _⟩ := List.getElem?_eq_some_iff.mp hc
        exact ⟨h.at (by omega), qFr.at _ _, rfl⟩
    · exact ⟨h.at (by omega), qFr.at _ _, rfl⟩
  · exact ⟨h, qFr.refl _, rfl⟩
theorem c47 (h : isQ t) (ok : qOk qb Q) (hb : BB qb) {c : Nat} (hc : qb[Q.2 10]? = some c) (hl : (Q.1 1).length ≤ 66) (l4 : (Q.1 4).length < 12) (l5 : (Q.1 5).length < 12) (l6 : (Q.1 6).length < 12) : zden L (d + 6) 47 [.ref t, .int (nI c)] (putQ z t Q) = some (bI (qLeaf qb Q c).1, putQ z t (qLeaf qb Q c).2) := by
  have hb2 := hb.2
  have c256 := hb.at hc
  obtain ⟨hp, _⟩ := List.getElem?_eq_some_iff.mp hc
  have fin : ∀ (Q' : CT) (r : Nat) (x3 : Int32), (Q'.1 4).length < 12 → (Q'.1 5).length < 12 → (Q'.1 6).length < 12 → (Q.1 1).length ≤ (Q'.1 1).length → xruns (O2 L) (zden L (d + 5)) 47 56 [.ref t, .int (nI c), .int (nI (Q.1 1).length), .int x3, .int (nI r)] [] (putQ z t Q') = some (nI 1, putQ z t (qAdd (Q.1 1).length r Q')) := by
    intro Q' r x3 m4 m5 m6 m1
    rw [B47_56, R3_4 h, Option.bind_some, Q4a h _ m4, Option.bind_some, R3_5 h, Option.bind_some, R3_1 h, Option.bind_some, Q1s h, Option.bind_some]
    show ((zden L (d + 5) 61 [.ref (t + 11), .int (nI (Q'.1 1).length - nI (Q.1 1).length)] _).bind _) = _
    show ((zden L (d + 5) 61 [.ref (t + 11), .int (nI (Q'.1 1).length - nI (Q.1 1).length)] (putQ z t (va_up Q'.1 4 (Q'.1 4 ++ [(Q.1 1).length]), Q'.2))).bind _) = _
    rw [pk_sub m1, Q5a h _ (show ((va_up Q'.1 4 (Q'.1 4 ++ [(Q.1 1).length]), Q'.2).1 5).length < 12 from m5), Option.bind_some, R3_6 h, Option.bind_some, Q6a h _ (by exact m6), Option.bind_some, iO1]
    rfl
  rw [N47 _ _ (obQ h), B47_0, R3_1 h, Option.bind_some, Q1s h, Option.bind_some, iE (by omega) (by omega)]
  unfold qLeaf
  by_cases e : c = 34
  · obtain ⟨p1, p2, p3, p4, p5⟩ := qPh_ok 7 0 (qAt Q (Q.2 10 + 1)) (by omega) (ok.at (by omega))
    rw [if_pos e, if_pos e, B47_14, c48 h ok hb hp hl, Option.bind_some, B47_25, iB]
    by_cases e1 : (qPhrase qb Q).1 = true
    · obtain ⟨r1, r2, r3⟩ := qRoom_ok (qb := qb) (Q := (qPhrase qb Q).2) p1
      have fr : qFr Q (qRoom qb (qPhrase qb Q).2).2 := ((qFr.at Q (Q.2 10 + 1)).trans p2).trans r2
      rw [if_pos e1, if_pos e1, B47_32, iE (by omega) (by omega), if_pos e, B47_38, c53 h (show qOk qb (qPhrase qb Q).2 from p1) hb, Option.bind_some, B47_46]
      cases hr : (qRoom qb (qPhrase qb Q).2).1 with
      | none =>
        simp only
        rw [if_pos trivial, B47_54, iO0]; rfl
      | some r =>
        have rl : r < 256 := by
          unfold qRoom at hr
          split at hr
          · split at hr
            · cases hr
              have : qb.getD ((qPhrase qb Q).2.2 10 + 1) 0 < 256 := by
                cases hq : qb[(qPhrase qb Q).2.2 10 + 1]? with
                | none => simp [List.getD, hq]
                | some c => rw [gDo hq]; exact hb.at hq
              omega
            · cases hr
          · cases hr; omega
        simp only
        rw [if_neg (fun q => m1_ne (by omega) q.symm)]
        refine Eq.trans (fin _ r _ (by rw [fr.1 4 (by omega)]; exact l4) (by rw [fr.1 5 (by omega)]; exact l5) (by rw [fr.1 6 (by omega)]; exact l6) ?_) rfl
        rw [r3]
        exact p4
    · rw [if_neg e1, if_neg e1, B47_30, iO0]; rfl
  · obtain ⟨t1, t2, t3, t4⟩ := qTerm_ok ok
    rw [if_neg e, if_neg e, B47_21, c51 h ok.1 hb ok.2.1 (by omega) ok.2.2.1 ok.2.2.2, Option.bind_some, B47_25, iB]
    by_cases e1 : (qTerm qb Q).1 = true
    · rw [if_pos e1, if_pos e1, B47_32, iE (by omega) (by omega), if_neg e, B47_45, B47_46, if_neg (fun q => m1_ne (show 0 < 2 ^ 31 by omega) q.symm)]
      exact fin _ 0 _ (by rw [t3.1.1 4 (by omega)]; exact l4) (by rw [t3.1.1 5 (by omega)]; exact l5) (by rw [t3.1.1 6 (by omega)]; exact l6) (by have := (t4 e1).1; omega)
    · rw [if_neg e1, if_neg e1, B47_30, iO0]; rfl
end
