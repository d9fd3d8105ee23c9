/-! THE CLASS'S QUERY: the whole reading; what its nodes mean is carried along (Sem, DD) -/
abbrev Sem : Type := ((Nat → Bool) → Bool) × ((Nat → Bool) → Nat → Bool)
def lfS (k : Nat) : Sem := (fun v => v k, fun v l => v k && decide (l = k))
def ntS (s : Sem) : Sem := (fun v => !s.1 v, fun _ _ => false)
def anS (cs : List Sem) : Sem := (fun v => cs.all (fun s => s.1 v), fun v l => cs.all (fun s => s.1 v) && cs.any (fun s => s.2 v l))
def orS (os : List Sem) : Sem := (fun v => os.any (fun s => s.1 v), fun v l => os.any (fun s => s.2 v l))
abbrev DD : Type := List (List Sem × List Sem)
def dnD : FR → DD → DD
  | (0, _) :: fr, _ :: D => dnD fr D
  | _, D => D
def ntN : FR → Sem → Sem
  | (0, _) :: fr, s => ntN fr (ntS s)
  | _, s => s
def attD (fr : FR) (D : DD) (s : Sem) : DD := match dnD fr D with
  | (os, cs) :: D' => (os, cs ++ [ntN fr s]) :: D'
  | [] => []
def dStep (Q : CT) (fr : FR) (D : DD) (c : Nat) : DD :=
  if Q.2 13 = 0 then (match fr, D with
    | _ :: fr1, (os, cs) :: D1 => if c = 41 then attD fr1 D1 (orS (os ++ [anS cs])) else if c = 124 then (os ++ [anS cs], []) :: D1 else (os, cs) :: D1
    | _, D => D)
  else if c = 33 ∨ c = 40 then ([], []) :: D else attD fr D (lfS (Q.1 4).length)
def qStep (qb : List Nat) (Q : CT) (fr : FR) (c : Nat) : Bool × CT × FR := if Q.2 13 = 0 then qJoint Q fr c else qOne qb Q fr c
def qgo (qb : List Nat) : Nat → CT → FR → DD → Option Nat × CT × FR × DD
  | 0, Q, fr, D => (some 0, Q, fr, D)
  | r + 1, Q, fr, D =>
    if qb.length ≤ (qSkip qb Q).2 10 then ((if Q.2 13 = 0 ∧ fr.length = 1 then none else some qb.length), qSkip qb Q, fr, D)
    else if (qStep qb (qSkip qb Q) fr (qb.getD ((qSkip qb Q).2 10) 0)).1 = true then qgo qb r (qStep qb (qSkip qb Q) fr (qb.getD ((qSkip qb Q).2 10) 0)).2.1 (qStep qb (qSkip qb Q) fr (qb.getD ((qSkip qb Q).2 10) 0)).2.2 (dStep (qSkip qb Q) fr D (qb.getD ((qSkip qb Q).2 10) 0))
    else (some ((qStep qb (qSkip qb Q) fr (qb.getD ((qSkip qb Q).2 10) 0)).2.1.2 10), (qStep qb (qSkip qb Q) fr (qb.getD ((qSkip qb Q).2 10) 0)).2.1, (qStep qb (qSkip qb Q) fr (qb.getD ((qSkip qb Q).2 10) 0)).2.2, D)
theorem chOk_ne {K P : List Nat} {fr : FR} (h : chOk K P fr) : ∃ v fr1, fr = v :: fr1 := by
  cases fr with
  | nil => exact absurd h id
  | cons v fr => exact ⟨v, fr, rfl⟩
theorem app_new (l : List Nat) (x : Nat) : (l ++ [x])[l.length]? = some x := by simp
theorem qOne_wf {qb : List Nat} {Q : CT} {fr : FR} {c : Nat} (w : WfQ qb Q fr) (h13 : Q.2 13 = 1) (hc : qb[Q.2 10]? = some c) (ht : (qOne qb Q fr c).1 = true) : WfQ qb (qOne qb Q fr c).2.1 (qOne qb Q fr c).2.2 ∧ Q.2 10 < (qOne qb Q fr c).2.1.2 10 := by
  obtain ⟨hp, _⟩ := List.getElem?_eq_some_iff.mp hc
  obtain ⟨ok, a5, a6, a4, a1, a8, a9, ch, a11, a12, a12', a13, a13', b7, b7'⟩ := w
  obtain ⟨hi1, hi2, hi3⟩ := hd_in ch
  unfold qOne at ht ⊢
  by_cases e1 : c = 33 ∨ c = 40
  · rw [if_pos e1] at ht ⊢
    by_cases e2 : Q.2 12 < 8
    · rw [if_pos e2] at ht ⊢
      have okA : qOk qb (qAt Q (Q.2 10 + 1)) := ok.at (by omega)
      by_cases e3 : c = 33
      · have eD : qDeep Q fr c = (qCur (qNode (Q.1, va_up (va_up Q.2 12 (Q.2 12 + 1)) 10 (Q.2 10 + 1)) 2 (Q.2 11) BAD32) (Q.1 7).length, (0, (Q.1 7).length) :: fr) := if_pos e3
        simp only [eD]
        refine ⟨⟨⟨okA.1, okA.2.1, okA.2.2.1, okA.2.2.2⟩, a5, a6, a4, a1, ?_, ?_, ?_, rfl, ?_, ?_, a13, ?_, ?_, ?_⟩, ?_⟩
        · show (Q.1 8 ++ [Q.2 11]).length = (Q.1 7 ++ [2]).length
          simp only [List.length_append, List.length_cons, List.length_nil]; omega
        · show (Q.1 9 ++ [BAD32]).length = (Q.1 7 ++ [2]).length
          simp only [List.length_append, List.length_cons, List.length_nil]; omega
        · show (Q.1 7 ++ [2])[(Q.1 7).length]? = some 2 ∧ (Q.1 8 ++ [Q.2 11])[(Q.1 7).length]? = some (hd fr) ∧ hd fr < (Q.1 7).length ∧ chOk (Q.1 7 ++ [2]) (Q.1 8 ++ [Q.2 11]) fr
          refine ⟨app_new _ _, ?_, hi1, chOk_app (fun i k q => app_at q) (fun i k q => app_at q) ch⟩
          rw [← a8, app_new, a11]
        · show Q.2 12 + 1 + 1 = ((0, (Q.1 7).length) :: fr).length
          rw [List.length_cons]; omega
        · rw [List.length_cons]; omega
        · intro q
          have q : Q.2 13 = 0 := q
          omega
        · intro q
          have q : Q.2 13 = 0 := q
          omega
        · show (Q.1 7 ++ [2]).length ≤ 18 * (Q.1 4).length + 3 + 2 * (Q.2 12 + 1)
          simp only [List.length_append, List.length_cons, List.length_nil]; omega
        · show Q.2 10 < Q.2 10 + 1
          omega
      · have eD : qDeep Q fr c = (qCur (qNode (qNode (Q.1, va_up (va_up Q.2 12 (Q.2 12 + 1)) 10 (Q.2 10 + 1)) 0 (Q.2 11) BAD32) 1 (Q.1 7).length BAD32) ((Q.1 7).length + 1), ((Q.1 7).length + 1, (Q.1 7).length + 1) :: fr) := if_neg e3
        simp only [eD]
        obtain ⟨v, fr1, rfl⟩ := chOk_ne ch
        refine ⟨⟨⟨okA.1, okA.2.1, okA.2.2.1, okA.2.2.2⟩, a5, a6, a4, a1, ?_, ?_, ?_, rfl, ?_, ?_, a13, ?_, ?_, ?_⟩, ?_⟩
        · show (Q.1 8 ++ [Q.2 11] ++ [(Q.1 7).length]).length = (Q.1 7 ++ [0] ++ [1]).length
          simp only [List.length_append, List.length_cons, List.length_nil]; omega
        · show (Q.1 9 ++ [BAD32] ++ [BAD32]).length = (Q.1 7 ++ [0] ++ [1]).length
          simp only [List.length_append, List.length_cons, List.length_nil]; omega
        · have l7 : (Q.1 7 ++ [0]).length = (Q.1 7).length + 1 := by simp
          have l8 : (Q.1 8 ++ [Q.2 11]).length = (Q.1 7).length + 1 := by simp [a8]
          show (Q.1 7 ++ [0] ++ [1])[(Q.1 7).length + 1]? = some 1 ∧ (Q.1 8 ++ [Q.2 11] ++ [(Q.1 7).length])[(Q.1 7).length + 1]? = some (Q.1 7).length ∧ (Q.1 7).length < (Q.1 7).length + 1 ∧ (Q.1 7 ++ [0] ++ [1])[(Q.1 7).length]? = some 0 ∧ (Q.1 8 ++ [Q.2 11] ++ [(Q.1 7).length])[(Q.1 7).length]? = some (hd (v :: fr1)) ∧ hd (v :: fr1) < (Q.1 7).length ∧ chOk (Q.1 7 ++ [0] ++ [1]) (Q.1 8 ++ [Q.2 11] ++ [(Q.1 7).length]) (v :: fr1)
          refine ⟨?_, ?_, by omega, app_at (app_new _ _), ?_, hi1, chOk_app (fun i k q => app_at (app_at q)) (fun i k q => app_at (app_at q)) ch⟩
          · rw [← l7, app_new]
          · rw [← l8, app_new]
          · refine app_at ?_
            rw [← a8, app_new, a11]
        · show Q.2 12 + 1 + 1 = (((Q.1 7).length + 1, (Q.1 7).length + 1) :: v :: fr1).length
          rw [List.length_cons]; omega
        · rw [List.length_cons]; omega
        · intro q
          have q : Q.2 13 = 0 := q
          omega
        · intro q
          have q : Q.2 13 = 0 := q
          omega
        · show (Q.1 7 ++ [0] ++ [1]).length ≤ 18 * (Q.1 4).length + 3 + 2 * (Q.2 12 + 1)
          simp only [List.length_append, List.length_cons, List.length_nil]; omega
        · show Q.2 10 < Q.2 10 + 1
          omega
    · rw [if_neg e2] at ht
      cases ht
  · rw [if_neg e1] at ht ⊢
    by_cases e2 : 12 ≤ (Q.1 6).length
    · rw [if_pos e2] at ht
      cases ht
    · rw [if_neg e2] at ht ⊢
      by_cases e3 : (qLeaf qb Q c).1 = true
      · rw [if_pos e3]
        obtain ⟨l1, l2, l3, l4⟩ := qLeaf_ok ok hc
        obtain ⟨x4, x5, x6, x1, x1', x10⟩ := l4 e3
        have e7 : (qLeaf qb Q c).2.1 7 = Q.1 7 := l2 7 (by omega)
        have e8 : (qLeaf qb Q c).2.1 8 = Q.1 8 := l2 8 (by omega)
        have e9 : (qLeaf qb Q c).2.1 9 = Q.1 9 := l2 9 (by omega)
        have chN : chOk (Q.1 7 ++ [3]) (Q.1 8 ++ [Q.2 11]) fr := chOk_app (fun i k q => app_at q) (fun i k q => app_at q) ch
        obtain ⟨d1, d2, d3⟩ := dn_ok chN
        refine ⟨⟨l1, ?_, ?_, ?_, ?_, ?_, ?_, ?_, rfl, ?_, ?_, ?_, ?_, ?_, ?_⟩, x10⟩
        · show ((qLeaf qb Q c).2.1 5).length = ((qLeaf qb Q c).2.1 4).length
          omega
        · show ((qLeaf qb Q c).2.1 6).length = ((qLeaf qb Q c).2.1 4).length
          omega
        · show ((qLeaf qb Q c).2.1 4).length ≤ 12
          omega
        · show ((qLeaf qb Q c).2.1 1).length ≤ 6 * ((qLeaf qb Q c).2.1 4).length
          omega
        · show ((qLeaf qb Q c).2.1 8 ++ [Q.2 11]).length = ((qLeaf qb Q c).2.1 7 ++ [3]).length
          rw [e7, e8]; simp only [List.length_append, List.length_cons, List.length_nil]; omega
        · show ((qLeaf qb Q c).2.1 9 ++ [((qLeaf qb Q c).2.1 6).length - 1]).length = ((qLeaf qb Q c).2.1 7 ++ [3]).length
          rw [e7, e9]; simp only [List.length_append, List.length_cons, List.length_nil]; omega
        · show chOk ((qLeaf qb Q c).2.1 7 ++ [3]) ((qLeaf qb Q c).2.1 8 ++ [Q.2 11]) (dn fr)
          rw [e7, e8]; exact d1
        · show (dn fr).length - 1 + 1 = (dn fr).length
          omega
        · show (dn fr).length ≤ 9
          omega
        · show 0 ≤ 1
          omega
        · intro _
          exact dn_dn fr
        · intro _
          show ((qLeaf qb Q c).2.1 7 ++ [3]).length ≤ 18 * ((qLeaf qb Q c).2.1 4).length + 2
          rw [e7, x4]; simp only [List.length_append, List.length_cons, List.length_nil]; omega
        · show ((qLeaf qb Q c).2.1 7 ++ [3]).length ≤ 18 * ((qLeaf qb Q c).2.1 4).length + 3 + 2 * ((dn fr).length - 1)
          rw [e7, x4]; simp only [List.length_append, List.length_cons, List.length_nil]; omega
      · rw [if_neg e3] at ht
        cases ht
theorem qJoint_wf {qb : List Nat} {Q : CT} {fr : FR} {c : Nat} (w : WfQ qb Q fr) (h13 : Q.2 13 = 0) (hc : qb[Q.2 10]? = some c) (ht : (qJoint Q fr c).1 = true) : WfQ qb (qJoint Q fr c).2.1 (qJoint Q fr c).2.2 ∧ Q.2 10 < (qJoint Q fr c).2.1.2 10 := by
  obtain ⟨hp, _⟩ := List.getElem?_eq_some_iff.mp hc
  obtain ⟨ok, a5, a6, a4, a1, a8, a9, ch, a11, a12, a12', a13, a13', b7, b7'⟩ := w
  obtain ⟨j, i, fr1, rfl, k1, k2, k3, k4, k5, k6⟩ := dn_par ch (a13' h13)
  have okA : qOk qb (qAt Q (Q.2 10 + 1)) := ok.at (by omega)
  simp only [List.length_cons] at a12 a12'
  have b7 := b7 h13
  have qJ : qJoint Q ((j + 1, i) :: fr1) c = if c = 41 then (if fr1.length = 0 then (false, Q, (j + 1, i) :: fr1) else (true, qEnd (Q.1, va_up (va_up (va_up Q.2 11 (hd fr1)) 12 (Q.2 12 - 1)) 10 (Q.2 10 + 1)) fr1, dn fr1)) else if c = 124 then (true, ((qNode Q 1 j BAD32).1, va_up (va_up (va_up Q.2 11 (Q.1 7).length) 13 1) 10 (Q.2 10 + 1)), (j + 1, (Q.1 7).length) :: fr1) else if c = 38 then (true, (Q.1, va_up (va_up Q.2 13 1) 10 (Q.2 10 + 1)), (j + 1, i) :: fr1) else (false, Q, (j + 1, i) :: fr1) := rfl
  rw [qJ] at ht ⊢
  by_cases e1 : c = 41
  · rw [if_pos e1] at ht ⊢
    by_cases e2 : fr1.length = 0
    · rw [if_pos e2] at ht; cases ht
    · rw [if_neg e2]
      obtain ⟨d1, d2, d3⟩ := dn_ok (k6 e2).2.2
      refine ⟨⟨⟨okA.1, okA.2.1, okA.2.2.1, okA.2.2.2⟩, a5, a6, a4, a1, a8, a9, d1, rfl, ?_, ?_, ?_, ?_, ?_, ?_⟩, ?_⟩
      · show (dn fr1).length - 1 + 1 = (dn fr1).length
        omega
      · show (dn fr1).length ≤ 9
        omega
      · show 0 ≤ 1
        omega
      · intro _
        exact dn_dn fr1
      · intro _
        exact b7
      · show (Q.1 7).length ≤ 18 * (Q.1 4).length + 3 + 2 * ((dn fr1).length - 1)
        omega
      · show Q.2 10 < Q.2 10 + 1
        omega
  · rw [if_neg e1] at ht ⊢
    by_cases e2 : c = 124
    · rw [if_pos e2]
      refine ⟨⟨⟨okA.1, okA.2.1, okA.2.2.1, okA.2.2.2⟩, a5, a6, a4, a1, ?_, ?_, ?_, rfl, ?_, ?_, ?_, ?_, ?_, ?_⟩, ?_⟩
      · show (Q.1 8 ++ [j]).length = (Q.1 7 ++ [1]).length
        simp only [List.length_append, List.length_cons, List.length_nil]; omega
      · show (Q.1 9 ++ [BAD32]).length = (Q.1 7 ++ [1]).length
        simp only [List.length_append, List.length_cons, List.length_nil]; omega
      · show chOk (Q.1 7 ++ [1]) (Q.1 8 ++ [j]) ((j + 1, (Q.1 7).length) :: fr1)
        have kj : (Q.1 7 ++ [1])[j]? = some 0 := app_at k4
        obtain ⟨jl, _⟩ := List.getElem?_eq_some_iff.mp k4
        have pn : (Q.1 8 ++ [j])[(Q.1 7).length]? = some j := by rw [← a8, app_new]
        cases fr1 with
        | nil => exact ⟨app_new _ _, pn, jl, kj, k5.mpr rfl⟩
        | cons v fr2 =>
          obtain ⟨p1, p2, p3⟩ := k6 (by simp)
          exact ⟨app_new _ _, pn, jl, kj, app_at p1, p2, chOk_app (fun i k q => app_at q) (fun i k q => app_at q) p3⟩
      · show Q.2 12 + 1 = ((j + 1, (Q.1 7).length) :: fr1).length
        rw [List.length_cons]; omega
      · rw [List.length_cons]; omega
      · show 1 ≤ 1
        omega
      · intro q
        have q : (1 : Nat) = 0 := q
        omega
      · intro q
        have q : (1 : Nat) = 0 := q
        omega
      · show (Q.1 7 ++ [1]).length ≤ 18 * (Q.1 4).length + 3 + 2 * Q.2 12
        simp only [List.length_append, List.length_cons, List.length_nil]; omega
      · show Q.2 10 < Q.2 10 + 1
        omega
    · rw [if_neg e2] at ht ⊢
      by_cases e3 : c = 38
      · rw [if_pos e3]
        refine ⟨⟨⟨okA.1, okA.2.1, okA.2.2.1, okA.2.2.2⟩, a5, a6, a4, a1, a8, a9, ch, a11, ?_, ?_, ?_, ?_, ?_, b7'⟩, ?_⟩
        · show Q.2 12 + 1 = ((j + 1, i) :: fr1).length
          rw [List.length_cons]; omega
        · rw [List.length_cons]; omega
        · show 1 ≤ 1
          omega
        · intro q
          have q : (1 : Nat) = 0 := q
          omega
        · intro q
          have q : (1 : Nat) = 0 := q
          omega
        · show Q.2 10 < Q.2 10 + 1
          omega
      · rw [if_neg e3] at ht; cases ht
theorem qStep_wf {qb : List Nat} {Q : CT} {fr : FR} {c : Nat} (w : WfQ qb Q fr) (hc : qb[Q.2 10]? = some c) (ht : (qStep qb Q fr c).1 = true) : WfQ qb (qStep qb Q fr c).2.1 (qStep qb Q fr c).2.2 ∧ Q.2 10 < (qStep qb Q fr c).2.1.2 10 := by
  have h13 : Q.2 13 ≤ 1 := w.2.2.2.2.2.2.2.2.2.2.2.1
  unfold qStep at ht ⊢
  by_cases e : Q.2 13 = 0
  · rw [if_pos e] at ht ⊢
    exact qJoint_wf w e hc ht
  · rw [if_neg e] at ht ⊢
    exact qOne_wf w (by omega) hc ht
theorem qSkip_s {qb : List Nat} {Q : CT} (h : qb[Q.2 10]? = some 32) : qSkip qb (qAt Q (Q.2 10 + 1)) = qSkip qb Q := by
  unfold qSkip
  rw [qAt_10, brun_s h]
  unfold qAt
  refine Prod.ext rfl (funext fun f => ?_)
  by_cases q : f = 10
  · subst q; simp only [vs]; omega
  · simp only [vn _ _ q]
theorem qSkip_0 {qb : List Nat} {Q : CT} (h : qb[Q.2 10]? ≠ some 32) : qSkip qb Q = Q := by
  unfold qSkip qAt
  rw [brun_0 h, Nat.add_zero, vi]
theorem qSkip_wf {qb : List Nat} {Q : CT} {fr : FR} (w : WfQ qb Q fr) : WfQ qb (qSkip qb Q) fr := ⟨qSkip_ok w.1, w.2⟩
theorem WfQ.at {qb : List Nat} {Q : CT} {fr : FR} (w : WfQ qb Q fr) {p : Nat} (hp : p ≤ qb.length) : WfQ qb (qAt Q p) fr := ⟨w.1.at hp, w.2⟩
theorem qgo_s {qb : List Nat} {Q : CT} {fr : FR} {D : DD} {r : Nat} (hr : 1 ≤ r) (h : qb[Q.2 10]? = some 32) : qgo qb r (qAt Q (Q.2 10 + 1)) fr D = qgo qb r Q fr D := by
  obtain ⟨r, rfl⟩ : ∃ k, r = k + 1 := ⟨r - 1, by omega⟩
  unfold qgo
  rw [qSkip_s h]
  rfl
section
variable {L d : Nat} {z : zS} {t : Nat} {qb : List Nat}
theorem c39_end (h : isQ t) {Q : CT} {fr : FR} (hb : BB qb) (w : WfQ qb Q fr) {x : Int32} {v3 : Value} : xruns (O2 L) (zden L (d + 7)) 39 100 [.ref t, .ref 2, .int x, v3] [] (putQ z t Q) = some ((match (if Q.2 13 = 0 ∧ fr.length = 1 then none else some qb.length) with | some p => nI p | none => -1), putQ z t Q) := by
  obtain ⟨ok, a5, a6, a4, a1, a8, a9, ch, a11, a12, a12', a13, a13', b7, b7'⟩ := w
  have e131 : ∀ (x : Int32) (v3 : Value), xruns (O2 L) (zden L (d + 7)) 39 131 [.ref t, .ref 2, .int x, v3] [] (putQ z t Q) = some (nI qb.length, putQ z t Q) := by
    intro x v3
    rw [B39_131, R3_0 h, Option.bind_some, Q0s h, Option.bind_some, B39_142, ok.1]
  rw [B39_100, R3_8 h, Option.bind_some, Q11r h, Option.bind_some, Q8g h, Option.bind_some]
  by_cases e : Q.2 13 = 0
  · obtain ⟨j, i, fr1, rfl, k1, k2, k3, k4, k5, k6⟩ := dn_par ch (a13' e)
    have h11 : Q.2 11 = i := a11
    have l7 : (Q.1 7).length ≤ 250 := by have := b7 e; omega
    obtain ⟨jl, _⟩ := List.getElem?_eq_some_iff.mp k4
    rw [h11, g7 k2 (by omega), iE (by omega) (by omega)]
    by_cases e2 : j = 0
    · have := k5.mp e2
      rw [if_pos e2, B39_114, B39_119, Q13r h, Option.bind_some, e, if_pos rfl, B39_127, if_neg (by decide), B39_141, B39_142, if_pos ⟨rfl, by rw [List.length_cons]; omega⟩]
    · have : fr1.length ≠ 0 := fun q => e2 (k5.mpr q)
      rw [if_neg e2, B39_118, B39_119, Q13r h, Option.bind_some, e, if_pos rfl, B39_127, if_pos rfl, e131, if_neg (fun q => by have := q.2; rw [List.length_cons] at this; omega)]
  · have e119 : ∀ (x s : Int32) (v3 : Value), xruns (O2 L) (zden L (d + 7)) 39 119 [.ref t, .ref 2, .int x, v3] [.int s] (putQ z t Q) = some (nI qb.length, putQ z t Q) := by
      intro x s v3
      rw [B39_119, Q13r h, Option.bind_some, iE (by omega) (by omega), if_neg e, e131]
    have en : (if Q.2 13 = 0 ∧ fr.length = 1 then none else some qb.length) = some qb.length := if_neg (fun q => e q.1)
    rw [en, B39_114, B39_118, e119, e119]
    exact ite_self _
theorem c39_loop (h : isQ t) (hb : BB qb) : ∀ (m r u : Nat) (Q : CT) (fr : FR) (D : DD) (v3 : Value), WfQ qb Q fr → qb.length ≤ Q.2 10 + m → qb.length < Q.2 10 + r → u ≤ Q.2 10 → xruns (O2 L) (zden L (d + 7)) 39 7 [.ref t, .ref 2, .int (nI u), v3] [] (putQ z t Q) = some ((match (qgo qb r Q fr D).1 with | some p => nI p | none => -1), putQ z t (qgo qb r Q fr D).2.1) := by
  have hb2 := hb.2
  have fin : ∀ (r : Nat) (Q : CT) (fr : FR) (D : DD) (x : Int32) (v3 : Value), WfQ qb Q fr → 1 ≤ r → qb.length ≤ Q.2 10 → xruns (O2 L) (zden L (d + 7)) 39 100 [.ref t, .ref 2, .int x, v3] [] (putQ z t Q) = some ((match (qgo qb r Q fr D).1 with | some p => nI p | none => -1), putQ z t (qgo qb r Q fr D).2.1) := by
    intro r Q fr D x v3 w hr he
    obtain ⟨r, rfl⟩ : ∃ k, r = k + 1 := ⟨r - 1, by omega⟩
    have sk : qSkip qb Q = Q := qSkip_0 (by rw [List.getElem?_eq_none he]; exact fun q => by cases q)
    have e : qgo qb (r + 1) Q fr D = ((if Q.2 13 = 0 ∧ fr.length = 1 then none else some qb.length), Q, fr, D) := by
      rw [qgo, sk, if_pos he]
    rw [e]
    exact c39_end h hb w
  intro m
  induction m with
  | zero =>
    intro r u Q fr D v3 w hm hr hu
    have o2 := w.1.2.1
    rw [B39_7, R3_0 h, Option.bind_some, Q0s h, Option.bind_some, w.1.1, iL (by omega) (by omega)]
    by_cases e : qb.length ≤ u
    · rw [if_pos e]
      exact fin r Q fr D _ _ w (by omega) (by omega)
    · rw [if_neg e, B39_18, Q10r h, Option.bind_some, R3_0 h, Option.bind_some, Q0s h, Option.bind_some, w.1.1, iL (by omega) (by omega), if_pos (by omega)]
      exact fin r Q fr D _ _ w (by omega) (by omega)
  | succ m ih =>
    intro r u Q fr D v3 w hm hr hu
    have o2 := w.1.2.1
    rw [B39_7, R3_0 h, Option.bind_some, Q0s h, Option.bind_some, w.1.1, iL (by omega) (by omega)]
    by_cases e : qb.length ≤ u
    · rw [if_pos e]
      exact fin r Q fr D _ _ w (by omega) (by omega)
    · rw [if_neg e, B39_18, Q10r h, Option.bind_some, R3_0 h, Option.bind_some, Q0s h, Option.bind_some, w.1.1, iL (by omega) (by omega)]
      by_cases e2 : qb.length ≤ Q.2 10
      · rw [if_pos e2]
        exact fin r Q fr D _ _ w (by omega) (by omega)
      · rw [if_neg e2, B39_32, R3_0 h, Option.bind_some, Q10r h, Option.bind_some, q56 h w.1.1 hb (by omega), Option.bind_some, iZ hb (by omega)]
        by_cases e3 : qb[Q.2 10]? = some 32
        · rw [if_pos e3, B39_50, Q10r h, Option.bind_some, nI_add, Q10p h, Option.bind_some, B39_94, nI_add, ← qgo_s (by omega) e3]
          exact ih r (u + 1) (qAt Q (Q.2 10 + 1)) fr D _ (w.at (by omega)) (by rw [qAt_10]; omega) (by rw [qAt_10]; omega) (by rw [qAt_10]; omega)
        · have hlt : Q.2 10 < qb.length := by omega
          have hc : qb[Q.2 10]? = some (qb.getD (Q.2 10) 0) := by rw [gD hlt]; exact List.getElem?_eq_getElem hlt
          obtain ⟨r, rfl⟩ : ∃ k, r = k + 1 := ⟨r - 1, by omega⟩
          have sk : qSkip qb Q = Q := qSkip_0 e3
          have h13 : Q.2 13 ≤ 1 := w.2.2.2.2.2.2.2.2.2.2.2.1
          have eg : qgo qb (r + 1) Q fr D = if (qStep qb Q fr (qb.getD (Q.2 10) 0)).1 = true then qgo qb r (qStep qb Q fr (qb.getD (Q.2 10) 0)).2.1 (qStep qb Q fr (qb.getD (Q.2 10) 0)).2.2 (dStep Q fr D (qb.getD (Q.2 10) 0)) else (some ((qStep qb Q fr (qb.getD (Q.2 10) 0)).2.1.2 10), (qStep qb Q fr (qb.getD (Q.2 10) 0)).2.1, (qStep qb Q fr (qb.getD (Q.2 10) 0)).2.2, D) := by
            rw [qgo, sk, if_neg e2]
          have e4 : xruns (O2 L) (zden L (d + 7)) 39 63 [.ref t, .ref 2, .int (nI u), .int (oz qb[Q.2 10]?)] [] (putQ z t Q) = if (qStep qb Q fr (qb.getD (Q.2 10) 0)).1 = true then xruns (O2 L) (zden L (d + 7)) 39 94 [.ref t, .ref 2, .int (nI u), .int (oz qb[Q.2 10]?)] [] (putQ z t (qStep qb Q fr (qb.getD (Q.2 10) 0)).2.1) else some (nI ((qStep qb Q fr (qb.getD (Q.2 10) 0)).2.1.2 10), putQ z t (qStep qb Q fr (qb.getD (Q.2 10) 0)).2.1) := by
            generalize qb.getD (Q.2 10) 0 = c at hc
            have c256 := hb.at hc
            rw [hc]
            unfold qStep
            by_cases e5 : Q.2 13 = 0
            · rw [if_pos e5, B39_63, Q13r h, Option.bind_some, e5, if_pos rfl, B39_81]
              show ((zden L (d + 7) 45 [.ref t, .int (nI c)] _).bind _) = _
              rw [c45 h c256 w e5, Option.bind_some, iB]
              by_cases e6 : (qJoint Q fr c).1 = true
              · rw [if_pos e6, if_pos e6]
              · rw [if_neg e6, if_neg e6, B39_89, Q10r h, Option.bind_some]
            · rw [if_neg e5, B39_63, Q13r h, Option.bind_some, iE (by omega) (by omega), if_neg e5, B39_70]
              show ((zden L (d + 7) 42 [.ref t, .int (nI c)] _).bind _) = _
              rw [c42 h hb hc w (by omega), Option.bind_some, iB]
              by_cases e6 : (qOne qb Q fr c).1 = true
              · rw [if_pos e6, if_pos e6, B39_78]
              · rw [if_neg e6, if_neg e6, B39_89, Q10r h, Option.bind_some]
          rw [if_neg e3, e4, eg]
          by_cases e6 : (qStep qb Q fr (qb.getD (Q.2 10) 0)).1 = true
          · obtain ⟨w2, hl⟩ := qStep_wf w hc e6
            rw [if_pos e6, if_pos e6, B39_94, nI_add]
            exact ih r (u + 1) _ _ _ _ w2 (by omega) (by omega) (by omega)
          · rw [if_neg e6, if_neg e6]
/-- what a query's reading begins with -/
def Q0 (qb : List Nat) : CT := (fun k => if k = 0 then qb else if k = 7 then [0, 1] else if k = 8 then [BAD32, 0] else if k = 9 then [BAD32, BAD32] else [], fun f => if f = 11 then 1 else if f = 13 then 1 else 0)
theorem Q0_wf (qb : List Nat) : WfQ qb (Q0 qb) [(1, 1)] := by
  refine ⟨⟨rfl, Nat.zero_le _, rfl, rfl⟩, rfl, rfl, Nat.zero_le _, Nat.zero_le _, rfl, rfl, ⟨rfl, rfl, ?_, rfl, rfl⟩, rfl, rfl, ?_, ?_, ?_, ?_, ?_⟩
  · decide
  · decide
  · show 1 ≤ 1; omega
  · intro q; exact absurd (show (1 : Nat) = 0 from q) (by omega)
  · intro q; exact absurd (show (1 : Nat) = 0 from q) (by omega)
  · show 2 ≤ _; omega
def qread (bs : List Nat) : Option Nat × CT × FR × DD := qgo (bs.map lo) (bs.length + 1) (Q0 (bs.map lo)) [(1, 1)] [([], [])]
theorem BB_lo {bs : List Nat} (h : BB bs) : BB (bs.map lo) := by
  refine ⟨fun x hx => ?_, by rw [List.length_map]; exact h.2⟩
  obtain ⟨y, hy, rfl⟩ := List.mem_map.mp hx
  exact lo_lt (h.1 y hy)
theorem c40_loop (h : isQ t) {bs : List Nat} (hb : BB bs) (hz : z.1 2 = bs.map nI) : ∀ (r i : Nat) (Q : CT), i + r = bs.length → Q.1 0 = (bs.take i).map lo → xruns (O2 L) (zden L (d + 4)) 40 9 [.ref t, .ref 2, .int (nI i)] [] (putQ z t Q) = xruns (O2 L) (zden L (d + 4)) 40 38 [.ref t, .ref 2, .int (nI bs.length)] [] (putQ z t (va_up Q.1 0 (bs.map lo), Q.2)) := by
  have hb2 := hb.2
  have e55 : ∀ Q : CT, zden L (d + 4) 55 [.ref 2] (putQ z t Q) = some (nI bs.length, putQ z t Q) := by
    intro Q
    rw [N55 rfl, putQ_2 h, hz, List.length_map]
  intro r
  induction r with
  | zero =>
    intro i Q hi hq
    have : i = bs.length := by omega
    subst this
    rw [B40_9, e55, Option.bind_some, iL (by omega) (by omega), if_pos (by omega)]
    rw [List.take_length] at hq
    rw [← hq, vi]
  | succ r ih =>
    intro i Q hi hq
    have hlt : i < bs.length := by omega
    rw [B40_9, e55, Option.bind_some, iL (by omega) (by omega), if_neg (by omega), B40_17, R3_0 h, Option.bind_some, c56 (bs := bs) rfl (by rw [putQ_2 h, hz]) hb (by omega), Option.bind_some, List.getElem?_eq_getElem hlt]
    have c256 : bs[i] < 256 := hb.1 _ (List.getElem_mem _)
    show ((zden L (d + 4) 104 [.int (nI bs[i])] (putQ z t Q)).bind _) = _
    rw [c104 c256, Option.bind_some, Q0a h _ (by rw [hq, List.length_map, List.length_take]; omega), Option.bind_some, nI_add]
    refine (ih (i + 1) _ (by omega) ?_).trans ?_
    · show Q.1 0 ++ [lo bs[i]] = _
      rw [hq, List.take_succ, List.map_append, List.getElem?_eq_getElem hlt]
      rfl
    · refine congrArg _ (congrArg (putQ z t) (Prod.ext (funext fun k => ?_) rfl))
      show va_up (va_up Q.1 0 _) 0 _ k = va_up Q.1 0 _ k
      by_cases q : k = 0
      · subst q; rw [vs, vs]
      · rw [vn _ _ q, vn _ _ q, vn _ _ q]
theorem c40 (h : isQ t) {bs : List Nat} (hb : BB bs) (hz : z.1 2 = bs.map nI) (Q : CT) : zden L (d + 5) 40 [.ref t, .ref 2] (putQ z t Q) = some (0, putQ z t (Q0 (bs.map lo))) := by
  rw [N40 _ _ (obQ h), B40_0, R3_0 h, Option.bind_some, Q0c h, Option.bind_some, c40_loop h hb hz bs.length 0 _ (by omega) (by show [] = _; rw [List.take_zero]; rfl), B40_38]
  rw [R3_1 h, Option.bind_some, Q1c h, Option.bind_some, R3_2 h, Option.bind_some, Q2c h, Option.bind_some, R3_3 h, Option.bind_some, Q3c h, Option.bind_some, R3_4 h, Option.bind_some, Q4c h, Option.bind_some, R3_5 h, Option.bind_some, Q5c h, Option.bind_some, R3_6 h, Option.bind_some, Q6c h, Option.bind_some, R3_7 h, Option.bind_some, Q7c h, Option.bind_some, R3_8 h, Option.bind_some, Q8c h, Option.bind_some, R3_9 h, Option.bind_some, Q9c h, Option.bind_some, Q10p h, Option.bind_some, Q12p h, Option.bind_some, if_pos (Or.inr rfl), Q13p h, Option.bind_some, ← nI_BAD, c41 h _ _ _ (by show (0 : Nat) < 400; omega) rfl rfl, Option.bind_some]
  show ((zden L (d + 4) 41 [.ref t, .int (nI 1), .int (nI 0), .int (nI BAD32)] _).bind _) = _
  rw [c41 h _ _ _ (by show (1 : Nat) < 400; omega) rfl rfl, Option.bind_some]
  show ((O2 L).2.2.1 _ t 3 11 (.int (nI 1))).bind _ = _
  rw [Q11p h, Option.bind_some]
  refine congrArg some (congrArg (Prod.mk _) (putQ_congr (fun k hk => ?_) (fun f h1 h2 => ?_)))
  · have : k = 0 ∨ k = 1 ∨ k = 2 ∨ k = 3 ∨ k = 4 ∨ k = 5 ∨ k = 6 ∨ k = 7 ∨ k = 8 ∨ k = 9 := by omega
    rcases this with rfl | rfl | rfl | rfl | rfl | rfl | rfl | rfl | rfl | rfl <;> rfl
  · have : f = 10 ∨ f = 11 ∨ f = 12 ∨ f = 13 := by omega
    rcases this with rfl | rfl | rfl | rfl <;> rfl
theorem c39 (h : isQ t) {bs : List Nat} (hb : BB bs) (hz : z.1 2 = bs.map nI) (Q : CT) : zden L (d + 8) 39 [.ref t, .ref 2] (putQ z t Q) = some ((match (qread bs).1 with | some p => nI p | none => -1), putQ z t (qread bs).2.1) := by
  rw [N39 _ _ (obQ h), B39_0, c40 h hb hz, Option.bind_some]
  exact c39_loop h (BB_lo hb) bs.length (bs.length + 1) 0 (Q0 (bs.map lo)) [(1, 1)] [([], [])] _ (Q0_wf _) (by rw [List.length_map]; omega) (by rw [List.length_map]; omega) (Nat.zero_le _)
end
