/-! THE CLASS'S QUERY: a step -/
def qDeep (Q : CT) (fr : FR) (c : Nat) : CT × FR :=
  if c = 33 then (qCur (qNode (Q.1, va_up (va_up Q.2 12 (Q.2 12 + 1)) 10 (Q.2 10 + 1)) 2 (Q.2 11) BAD32) (Q.1 7).length, (0, (Q.1 7).length) :: fr)
  else (qCur (qNode (qNode (Q.1, va_up (va_up Q.2 12 (Q.2 12 + 1)) 10 (Q.2 10 + 1)) 0 (Q.2 11) BAD32) 1 (Q.1 7).length BAD32) ((Q.1 7).length + 1), ((Q.1 7).length + 1, (Q.1 7).length + 1) :: fr)
def qOne (qb : List Nat) (Q : CT) (fr : FR) (c : Nat) : Bool × CT × FR :=
  if c = 33 ∨ c = 40 then (if Q.2 12 < 8 then (true, qDeep Q fr c) else (false, Q, fr))
  else if 12 ≤ (Q.1 6).length then (false, Q, fr)
  else if (qLeaf qb Q c).1 = true then (true, qEnd (qNode (qLeaf qb Q c).2 3 (Q.2 11) (((qLeaf qb Q c).2.1 6).length - 1)) fr, dn fr)
  else (false, (qLeaf qb Q c).2, fr)
def qJoint (Q : CT) (fr : FR) (c : Nat) : Bool × CT × FR := match fr with
  | [] => (false, Q, fr)
  | v :: fr1 =>
    if c = 41 then (if fr1.length = 0 then (false, Q, fr) else (true, qEnd (Q.1, va_up (va_up (va_up Q.2 11 (hd fr1)) 12 (Q.2 12 - 1)) 10 (Q.2 10 + 1)) fr1, dn fr1))
    else if c = 124 then (true, ((qNode Q 1 (v.1 - 1) BAD32).1, va_up (va_up (va_up Q.2 11 (Q.1 7).length) 13 1) 10 (Q.2 10 + 1)), (v.1, (Q.1 7).length) :: fr1)
    else if c = 38 then (true, (Q.1, va_up (va_up Q.2 13 1) 10 (Q.2 10 + 1)), fr)
    else (false, Q, fr)
def WfQ (qb : List Nat) (Q : CT) (fr : FR) : Prop :=
  qOk qb Q ∧ (Q.1 5).length = (Q.1 4).length ∧ (Q.1 6).length = (Q.1 4).length ∧ (Q.1 4).length ≤ 12 ∧ (Q.1 1).length ≤ 6 * (Q.1 4).length ∧ (Q.1 8).length = (Q.1 7).length ∧ (Q.1 9).length = (Q.1 7).length ∧ chOk (Q.1 7) (Q.1 8) fr ∧ Q.2 11 = hd fr ∧ Q.2 12 + 1 = fr.length ∧ fr.length ≤ 9 ∧ Q.2 13 ≤ 1 ∧ (Q.2 13 = 0 → dn fr = fr) ∧ (Q.2 13 = 0 → (Q.1 7).length ≤ 18 * (Q.1 4).length + 2) ∧ (Q.1 7).length ≤ 18 * (Q.1 4).length + 3 + 2 * Q.2 12
theorem dn_dn : ∀ fr : FR, dn (dn fr) = dn fr := by
  intro fr
  induction fr with
  | nil => rfl
  | cons v fr ih =>
    obtain ⟨j, i⟩ := v
    cases j with
    | zero => exact ih
    | succ j => rfl
/-- an open ( at the top -/
theorem dn_par {K P : List Nat} {fr : FR} (hc : chOk K P fr) (hd' : dn fr = fr) : ∃ j i fr1, fr = (j + 1, i) :: fr1 ∧ K[i]? = some 1 ∧ P[i]? = some j ∧ j < i ∧ K[j]? = some 0 ∧ (j = 0 ↔ fr1.length = 0) ∧ (fr1.length ≠ 0 → P[j]? = some (hd fr1) ∧ hd fr1 < j ∧ chOk K P fr1) := by
  match fr, hc, hd' with
  | (0, i) :: fr, hc, hd' =>
    have h1 : dn fr = (0, i) :: fr := hd'
    have := (dn_ok hc.2.2.2).2.1
    rw [h1] at this
    simp only [List.length_cons] at this
    exact absurd this (by omega)
  | (j + 1, i) :: [], hc, _ => exact ⟨j, i, [], rfl, hc.1, hc.2.1, hc.2.2.1, hc.2.2.2.1, ⟨fun _ => rfl, fun _ => hc.2.2.2.2⟩, fun q => absurd rfl q⟩
  | (j + 1, i) :: v :: fr, hc, _ =>
    refine ⟨j, i, v :: fr, rfl, hc.1, hc.2.1, hc.2.2.1, hc.2.2.2.1, ⟨fun q => ?_, fun q => by simp at q⟩, fun _ => ⟨hc.2.2.2.2.1, hc.2.2.2.2.2.1, hc.2.2.2.2.2.2⟩⟩
    have := hc.2.2.2.2.2.1
    omega
section
variable {L d : Nat} {z : zS} {t : Nat} {Q : CT} {qb : List Nat} {fr : FR}
theorem c43 (h : isQ t) {c : Nat} (hc : c = 33 ∨ c = 40) (l7 : (Q.1 7).length < 399) (l8 : (Q.1 8).length = (Q.1 7).length) (l9 : (Q.1 9).length = (Q.1 7).length) (h12 : Q.2 12 ≤ 8) : zden L (d + 4) 43 [.ref t, .int (nI c)] (putQ z t Q) = if Q.2 12 < 8 then some (nI 1, putQ z t (qDeep Q fr c).1) else some (nI 0, putQ z t Q) := by
  rw [N43 _ _ (obQ h), B43_0, Q12r h, Option.bind_some, iT (by omega) (by omega)]
  by_cases e : Q.2 12 < 8
  · rw [if_pos e, if_pos e, B43_11, Q12r h, Option.bind_some, nI_add, Q12p h, Option.bind_some, Q10r h, Option.bind_some]
    show ((O2 L).2.2.1 _ t 3 10 (.int (nI (Q.2 10) + nI 1))).bind _ = _
    rw [nI_add, Q10p h, Option.bind_some]
    unfold qDeep
    rcases hc with rfl | rfl
    · rw [if_pos rfl, if_pos rfl, B43_38, Q11r h, Option.bind_some]
      show ((zden L (d + 3) 41 [.ref t, .int (nI 2), .int (nI (Q.2 11)), .int (nI BAD32)] (putQ z t (Q.1, va_up (va_up Q.2 12 (Q.2 12 + 1)) 10 (Q.2 10 + 1)))).bind _) = _
      rw [c41 (Q := (Q.1, va_up (va_up Q.2 12 (Q.2 12 + 1)) 10 (Q.2 10 + 1))) h _ _ _ (by show (Q.1 7).length < 400; omega) l8 l9, Option.bind_some, B43_67, Q11p h, Option.bind_some, iO1]
      rfl
    · rw [iE (by omega) (by omega), if_neg (by omega), if_neg (by omega), B43_51, Q11r h, Option.bind_some]
      show ((zden L (d + 3) 41 [.ref t, .int (nI 0), .int (nI (Q.2 11)), .int (nI BAD32)] (putQ z t (Q.1, va_up (va_up Q.2 12 (Q.2 12 + 1)) 10 (Q.2 10 + 1)))).bind _) = _
      rw [c41 (Q := (Q.1, va_up (va_up Q.2 12 (Q.2 12 + 1)) 10 (Q.2 10 + 1))) h _ _ _ (by show (Q.1 7).length < 400; omega) l8 l9, Option.bind_some]
      show ((zden L (d + 3) 41 [.ref t, .int (nI 1), .int (nI (Q.1 7).length), .int (nI BAD32)] (putQ z t (qNode (Q.1, va_up (va_up Q.2 12 (Q.2 12 + 1)) 10 (Q.2 10 + 1)) 0 (Q.2 11) BAD32))).bind _) = _
      have e7 : ((qNode (Q.1, va_up (va_up Q.2 12 (Q.2 12 + 1)) 10 (Q.2 10 + 1)) 0 (Q.2 11) BAD32).1 7).length = (Q.1 7).length + 1 := by
        show (Q.1 7 ++ [0]).length = _
        rw [List.length_append]; rfl
      have e8 : ((qNode (Q.1, va_up (va_up Q.2 12 (Q.2 12 + 1)) 10 (Q.2 10 + 1)) 0 (Q.2 11) BAD32).1 8).length = (Q.1 8).length + 1 := by
        show (Q.1 8 ++ [_]).length = _
        rw [List.length_append]; rfl
      have e9 : ((qNode (Q.1, va_up (va_up Q.2 12 (Q.2 12 + 1)) 10 (Q.2 10 + 1)) 0 (Q.2 11) BAD32).1 9).length = (Q.1 9).length + 1 := by
        show (Q.1 9 ++ [_]).length = _
        rw [List.length_append]; rfl
      rw [c41 h _ _ _ (by omega) (by omega) (by omega), Option.bind_some, B43_67, Q11p h, Option.bind_some, iO1, e7]
      rfl
  · rw [if_neg e, if_neg e, B43_9, iO0]
theorem c46 (h : isQ t) {j i : Nat} {fr1 : FR} (hP : fr1.length ≠ 0 → (Q.1 8)[j]? = some (hd fr1) ∧ chOk (Q.1 7) (Q.1 8) fr1) (hj : j = 0 ↔ fr1.length = 0) (jl : j < 400) (l7 : (Q.1 7).length ≤ 400) (l8 : (Q.1 8).length ≤ 400) (h12 : Q.2 12 = fr1.length) (hr : fr1.length ≤ 9) : zden L (d + 3) 46 [.ref t, .int (nI j)] (putQ z t Q) = if fr1.length = 0 then some (nI 0, putQ z t Q) else some (nI 1, putQ z t (qEnd (Q.1, va_up (va_up (va_up Q.2 11 (hd fr1)) 12 (Q.2 12 - 1)) 10 (Q.2 10 + 1)) fr1)) := by
  rw [N46 _ _ (obQ h), B46_0, iE (by omega) (by omega)]
  by_cases e : j = 0
  · rw [if_pos e, if_pos (hj.mp e), B46_4, iO0]
  · have e' : ¬ fr1.length = 0 := fun q => e (hj.mpr q)
    obtain ⟨p1, p2⟩ := hP e'
    rw [if_neg e, if_neg e', B46_6, R3_8 h, Option.bind_some, Q8g h, Option.bind_some, g7 p1 l8, Q11p h, Option.bind_some, Q12r h, Option.bind_some]
    show ((O2 L).2.2.1 _ t 3 12 (.int (nI (Q.2 12) - nI 1))).bind _ = _
    rw [pk_sub (by omega), Q12p h, Option.bind_some, Q10r h, Option.bind_some]
    show ((O2 L).2.2.1 _ t 3 10 (.int (nI (Q.2 10) + nI 1))).bind _ = _
    rw [nI_add, Q10p h, Option.bind_some]
    show ((zden L (d + 2) 44 [.ref t] (putQ z t (Q.1, va_up (va_up (va_up Q.2 11 (hd fr1)) 12 (Q.2 12 - 1)) 10 (Q.2 10 + 1)))).bind _) = _
    rw [c44 h (Q := (Q.1, va_up (va_up (va_up Q.2 11 (hd fr1)) 12 (Q.2 12 - 1)) 10 (Q.2 10 + 1))) (fr := fr1) p2 l7 l8 (by show va_up (va_up (va_up Q.2 11 (hd fr1)) 12 (Q.2 12 - 1)) 10 (Q.2 10 + 1) 11 = _; simp (disch := omega) only [vs, vn]) (by show va_up (va_up (va_up Q.2 11 (hd fr1)) 12 (Q.2 12 - 1)) 10 (Q.2 10 + 1) 12 + 1 = _; simp (disch := omega) only [vs, vn]; omega) hr, Option.bind_some, iO1]
theorem c45 (h : isQ t) {c : Nat} (hc : c < 256) (w : WfQ qb Q fr) (h13 : Q.2 13 = 0) : zden L (d + 4) 45 [.ref t, .int (nI c)] (putQ z t Q) = some (bI (qJoint Q fr c).1, putQ z t (qJoint Q fr c).2.1) := by
  obtain ⟨ok, a5, a6, a4, a1, a8, a9, ch, a11, a12, a12', a13, a13', b7, b7'⟩ := w
  obtain ⟨j, i, fr1, rfl, k1, k2, k3, k4, k5, k6⟩ := dn_par ch (a13' h13)
  have h11 : Q.2 11 = i := a11
  simp only [List.length_cons] at a12 a12'
  have l7 : (Q.1 7).length ≤ 250 := by have := b7 h13; omega
  obtain ⟨jl, _⟩ := List.getElem?_eq_some_iff.mp k4
  rw [N45 _ _ (obQ h), B45_0, R3_8 h, Option.bind_some, Q11r h, Option.bind_some, Q8g h, Option.bind_some, h11, g7 k2 (by omega), iE (by omega) (by omega)]
  have qJ : qJoint Q ((j + 1, i) :: fr1) c = if c = 41 then (if fr1.length = 0 then (false, Q, (j + 1, i) :: fr1) else (true, qEnd (Q.1, va_up (va_up (va_up Q.2 11 (hd fr1)) 12 (Q.2 12 - 1)) 10 (Q.2 10 + 1)) fr1, dn fr1)) else if c = 124 then (true, ((qNode Q 1 j BAD32).1, va_up (va_up (va_up Q.2 11 (Q.1 7).length) 13 1) 10 (Q.2 10 + 1)), (j + 1, (Q.1 7).length) :: fr1) else if c = 38 then (true, (Q.1, va_up (va_up Q.2 13 1) 10 (Q.2 10 + 1)), (j + 1, i) :: fr1) else (false, Q, (j + 1, i) :: fr1) := rfl
  rw [qJ]
  by_cases e1 : c = 41
  · rw [if_pos e1, if_pos e1, B45_18, c46 h (i := i) (fr1 := fr1) (fun q => ⟨(k6 q).1, (k6 q).2.2⟩) k5 (by omega) (by omega) (by omega) (by omega) (by omega)]
    by_cases e2 : fr1.length = 0
    · rw [if_pos e2, if_pos e2, Option.bind_some, iO0]; rfl
    · rw [if_neg e2, if_neg e2, Option.bind_some, iO1]; rfl
  · rw [if_neg e1, if_neg e1, B45_24, iE (by omega) (by omega)]
    by_cases e2 : c = 124
    · rw [if_pos e2, if_pos e2, B45_38, iE (by omega) (by omega), if_pos e2, B45_44]
      show ((zden L (d + 3) 41 [.ref t, .int (nI 1), .int (nI j), .int (nI BAD32)] _).bind _) = _
      rw [c41 h _ _ _ (by omega) a8 a9, Option.bind_some, Q11p h, Option.bind_some, B45_55, iO1, Q13p h, Option.bind_some, Q10r h, Option.bind_some]
      show ((O2 L).2.2.1 _ t 3 10 (.int (nI (Q.2 10) + nI 1))).bind _ = _
      rw [nI_add, Q10p h, Option.bind_some, iO1]
      rfl
    · rw [if_neg e2, if_neg e2, B45_30, iE (by omega) (by omega)]
      by_cases e3 : c = 38
      · rw [if_pos e3, if_pos e3, B45_38, iE (by omega) (by omega), if_neg e2, B45_55, iO1, Q13p h, Option.bind_some, Q10r h, Option.bind_some]
        show ((O2 L).2.2.1 _ t 3 10 (.int (nI (Q.2 10) + nI 1))).bind _ = _
        rw [nI_add, Q10p h, Option.bind_some, iO1]
        rfl
      · rw [if_neg e3, if_neg e3, B45_36, iO0]; rfl
theorem qLeaf_ok {c : Nat} (ok : qOk qb Q) (hc : qb[Q.2 10]? = some c) : qOk qb (qLeaf qb Q c).2 ∧ (∀ k, k = 0 ∨ 7 ≤ k → (qLeaf qb Q c).2.1 k = Q.1 k) ∧ (∀ f, f ≠ 10 → (qLeaf qb Q c).2.2 f = Q.2 f) ∧ ((qLeaf qb Q c).1 = true → ((qLeaf qb Q c).2.1 4).length = (Q.1 4).length + 1 ∧ ((qLeaf qb Q c).2.1 5).length = (Q.1 5).length + 1 ∧ ((qLeaf qb Q c).2.1 6).length = (Q.1 6).length + 1 ∧ ((qLeaf qb Q c).2.1 1).length ≤ (Q.1 1).length + 6 ∧ (Q.1 1).length + 1 ≤ ((qLeaf qb Q c).2.1 1).length ∧ Q.2 10 < (qLeaf qb Q c).2.2 10) := by
  obtain ⟨hp, _⟩ := List.getElem?_eq_some_iff.mp hc
  have add : ∀ (Q' : CT) (r : Nat), qOk qb Q' → qFr Q Q' → (Q.1 1).length + 1 ≤ (Q'.1 1).length → (Q'.1 1).length ≤ (Q.1 1).length + 6 → Q.2 10 < Q'.2 10 → qOk qb (qAdd (Q.1 1).length r Q') ∧ (∀ k, k = 0 ∨ 7 ≤ k → (qAdd (Q.1 1).length r Q').1 k = Q.1 k) ∧ (∀ f, f ≠ 10 → (qAdd (Q.1 1).length r Q').2 f = Q.2 f) ∧ (((qAdd (Q.1 1).length r Q').1 4).length = (Q.1 4).length + 1 ∧ ((qAdd (Q.1 1).length r Q').1 5).length = (Q.1 5).length + 1 ∧ ((qAdd (Q.1 1).length r Q').1 6).length = (Q.1 6).length + 1 ∧ ((qAdd (Q.1 1).length r Q').1 1).length ≤ (Q.1 1).length + 6 ∧ (Q.1 1).length + 1 ≤ ((qAdd (Q.1 1).length r Q').1 1).length ∧ Q.2 10 < (qAdd (Q.1 1).length r Q').2 10) := by
    intro Q' r o fr l1 l2 l3
    refine ⟨o, fun k hk => ?_, fr.2, ?_, ?_, ?_, l2, l1, l3⟩
    · unfold qAdd
      simp (disch := omega) only [vn]
      exact fr.1 k (by omega)
    · unfold qAdd
      simp (disch := omega) only [vn, vs, List.length_append, List.length_cons, List.length_nil]
      rw [fr.1 4 (by omega)]
    · unfold qAdd
      simp (disch := omega) only [vn, vs, List.length_append, List.length_cons, List.length_nil]
      rw [fr.1 5 (by omega)]
    · unfold qAdd
      simp (disch := omega) only [vn, vs, List.length_append, List.length_cons, List.length_nil]
      rw [fr.1 6 (by omega)]
  have bad : ∀ (Q' : CT), qOk qb Q' → qFr Q Q' → qOk qb Q' ∧ (∀ k, k = 0 ∨ 7 ≤ k → Q'.1 k = Q.1 k) ∧ (∀ f, f ≠ 10 → Q'.2 f = Q.2 f) := fun Q' o fr => ⟨o, fun k hk => fr.1 k (by omega), fr.2⟩
  unfold qLeaf
  split
  · obtain ⟨p1, p2, p3, p4, p5⟩ := qPh_ok 7 0 (qAt Q (Q.2 10 + 1)) (by omega) (ok.at (by omega))
    have f0 : qFr Q (qPhrase qb Q).2 := (qFr.at Q (Q.2 10 + 1)).trans p2
    split
    · rename_i e1
      obtain ⟨r1, r2, r3⟩ := qRoom_ok (qb := qb) (Q := (qPhrase qb Q).2) p1
      have p5' := p5 e1
      rw [qAt_10] at p5'
      have rl : (qPhrase qb Q).2.2 10 ≤ (qRoom qb (qPhrase qb Q).2).2.2 10 := by
        unfold qRoom
        split
        · split
          · rw [qAt_10]; omega
          · rw [qAt_10]; omega
        · exact Nat.le_refl _
      have e3 : ((qRoom qb (qPhrase qb Q).2).2.1 1).length = ((qPhrase qb Q).2.1 1).length := by rw [r3]
      have p1' : (Q.1 1).length + 1 ≤ ((qPhrase qb Q).2.1 1).length + 0 := p5'.1
      have p3' : ((qPhrase qb Q).2.1 1).length ≤ (Q.1 1).length + (6 - 0) := p3
      have p5'' : Q.2 10 + 1 < (qPhrase qb Q).2.2 10 := p5'.2
      cases hr : (qRoom qb (qPhrase qb Q).2).1 with
      | none =>
        obtain ⟨x1, x2, x3⟩ := bad _ r1 (f0.trans r2)
        exact ⟨x1, x2, x3, fun q => by cases q⟩
      | some r =>
        obtain ⟨x1, x2, x3, x4⟩ := add _ r r1 (f0.trans r2) (by omega) (by omega) (by omega)
        exact ⟨x1, x2, x3, fun _ => x4⟩
    · obtain ⟨x1, x2, x3⟩ := bad _ p1 f0
      exact ⟨x1, x2, x3, fun q => by cases q⟩
  · obtain ⟨t1, t2, t3, t4⟩ := qTerm_ok ok
    split
    · rename_i e1
      have := t4 e1
      obtain ⟨x1, x2, x3, x4⟩ := add _ 0 t1 t3.1 (by omega) (by omega) (by omega)
      exact ⟨x1, x2, x3, fun _ => x4⟩
    · obtain ⟨x1, x2, x3⟩ := bad _ t1 t3.1
      exact ⟨x1, x2, x3, fun q => by cases q⟩
theorem c42 (h : isQ t) {c : Nat} (hb : BB qb) (hc : qb[Q.2 10]? = some c) (w : WfQ qb Q fr) (h13 : Q.2 13 = 1) : zden L (d + 7) 42 [.ref t, .int (nI c)] (putQ z t Q) = some (bI (qOne qb Q fr c).1, putQ z t (qOne qb Q fr c).2.1) := by
  have c256 := hb.at hc
  obtain ⟨ok, a5, a6, a4, a1, a8, a9, ch, a11, a12, a12', a13, a13', b7, b7'⟩ := w
  have deep : c = 33 ∨ c = 40 → xruns (O2 L) (zden L (d + 6)) 42 12 [.ref t, .int (nI c)] [] (putQ z t Q) = some (bI (qOne qb Q fr c).1, putQ z t (qOne qb Q fr c).2.1) := by
    intro e
    rw [B42_12, c43 h (fr := fr) e (by omega) a8 a9 (by omega)]
    unfold qOne
    rw [if_pos e]
    by_cases e2 : Q.2 12 < 8
    · rw [if_pos e2, if_pos e2, Option.bind_some, iO1]; rfl
    · rw [if_neg e2, if_neg e2, Option.bind_some, iO0]; rfl
  rw [N42 _ _ (obQ h), B42_0, iE (by omega) (by omega)]
  by_cases e1 : c = 33
  · rw [if_pos e1]; exact deep (Or.inl e1)
  · rw [if_neg e1, B42_6, iE (by omega) (by omega)]
    by_cases e2 : c = 40
    · rw [if_pos e2]; exact deep (Or.inr e2)
    · rw [if_neg e2, B42_18, c38 h, Option.bind_some, iL (by omega) (by omega)]
      unfold qOne
      rw [if_neg (show ¬ (c = 33 ∨ c = 40) by omega)]
      by_cases e3 : 12 ≤ (Q.1 6).length
      · rw [if_pos e3, if_pos e3, B42_35, iO0]; rfl
      · obtain ⟨l1, l2, l3, l4⟩ := qLeaf_ok ok hc
        rw [if_neg e3, if_neg e3, B42_27, c47 h ok hb hc (by omega) (by omega) (by omega) (by omega), Option.bind_some, iB]
        by_cases e4 : (qLeaf qb Q c).1 = true
        · obtain ⟨x4, x5, x6, x1, x1', _⟩ := l4 e4
          rw [if_pos e4, if_pos e4, B42_37, Q11r h, Option.bind_some, c38 h, Option.bind_some]
          show ((zden L (d + 6) 41 [.ref t, .int (nI 3), .int (nI ((qLeaf qb Q c).2.2 11)), .int (nI ((qLeaf qb Q c).2.1 6).length - nI 1)] _).bind _) = _
          have e7 : ((qNode (qLeaf qb Q c).2 3 (Q.2 11) (((qLeaf qb Q c).2.1 6).length - 1)).1 7) = Q.1 7 ++ [3] := by
            show (qLeaf qb Q c).2.1 7 ++ [3] = _
            rw [l2 7 (by omega)]
          have e8 : ((qNode (qLeaf qb Q c).2 3 (Q.2 11) (((qLeaf qb Q c).2.1 6).length - 1)).1 8) = Q.1 8 ++ [Q.2 11] := by
            show (qLeaf qb Q c).2.1 8 ++ [_] = _
            rw [l2 8 (by omega)]
          rw [pk_sub (by omega), l3 11 (by omega), c41 h _ _ _ (by rw [l2 7 (by omega)]; omega) (by rw [l2 7 (by omega), l2 8 (by omega)]; exact a8) (by rw [l2 7 (by omega), l2 9 (by omega)]; exact a9), Option.bind_some, c44 h (Q := qNode (qLeaf qb Q c).2 3 (Q.2 11) (((qLeaf qb Q c).2.1 6).length - 1)) (fr := fr) (by rw [e7, e8]; exact chOk_app (fun i k q => app_at q) (fun i k q => app_at q) ch) (by rw [e7, List.length_append]; simp only [List.length_cons, List.length_nil]; omega) (by rw [e8, List.length_append]; simp only [List.length_cons, List.length_nil]; omega) (by show (qLeaf qb Q c).2.2 11 = _; rw [l3 11 (by omega), a11]) (by show (qLeaf qb Q c).2.2 12 + 1 = _; rw [l3 12 (by omega), a12]) (by omega), Option.bind_some, iO1]
          rfl
        · rw [if_neg e4, if_neg e4, B42_35, iO0]; rfl
end
