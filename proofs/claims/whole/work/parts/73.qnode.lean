/-! THE CLASS'S QUERY: nodes. Frames: (0, i) a ! at node i; (j + 1, i) a ( with its ANY at node j and its open ALL at node i; the last one is the root's -/
abbrev FR : Type := List (Nat × Nat)
def hd : FR → Nat
  | [] => 0
  | v :: _ => v.2
def dn : FR → FR
  | [] => []
  | (0, _) :: fr => dn fr
  | (j + 1, i) :: fr => (j + 1, i) :: fr
def chOk (K P : List Nat) : FR → Prop
  | [] => False
  | (0, i) :: fr => K[i]? = some 2 ∧ P[i]? = some (hd fr) ∧ hd fr < i ∧ chOk K P fr
  | (j + 1, i) :: [] => K[i]? = some 1 ∧ P[i]? = some j ∧ j < i ∧ K[j]? = some 0 ∧ j = 0
  | (j + 1, i) :: v :: fr => K[i]? = some 1 ∧ P[i]? = some j ∧ j < i ∧ K[j]? = some 0 ∧ P[j]? = some (hd (v :: fr)) ∧ hd (v :: fr) < j ∧ chOk K P (v :: fr)
theorem hd_in {K P : List Nat} {fr : FR} (h : chOk K P fr) : hd fr < K.length ∧ hd fr ≠ 0 ∧ hd fr < P.length := by
  match fr, h with
  | (0, i) :: fr, h =>
    obtain ⟨q1, _⟩ := List.getElem?_eq_some_iff.mp h.1
    obtain ⟨q2, _⟩ := List.getElem?_eq_some_iff.mp h.2.1
    exact ⟨q1, fun e => by have := h.2.2.1; have e : i = 0 := e; omega, q2⟩
  | (j + 1, i) :: [], h =>
    obtain ⟨q1, _⟩ := List.getElem?_eq_some_iff.mp h.1
    obtain ⟨q2, _⟩ := List.getElem?_eq_some_iff.mp h.2.1
    exact ⟨q1, fun e => by have := h.2.2.1; have e : i = 0 := e; omega, q2⟩
  | (j + 1, i) :: v :: fr, h =>
    obtain ⟨q1, _⟩ := List.getElem?_eq_some_iff.mp h.1
    obtain ⟨q2, _⟩ := List.getElem?_eq_some_iff.mp h.2.1
    exact ⟨q1, fun e => by have := h.2.2.1; have e : i = 0 := e; omega, q2⟩
theorem dn_ok {K P : List Nat} : ∀ {fr : FR}, chOk K P fr → chOk K P (dn fr) ∧ (dn fr).length ≤ fr.length ∧ 1 ≤ (dn fr).length := by
  intro fr
  induction fr with
  | nil => intro h; exact absurd h id
  | cons v fr ih =>
    intro h
    obtain ⟨j, i⟩ := v
    cases j with
    | zero =>
      obtain ⟨h1, h2, h3, h4⟩ := h
      obtain ⟨q1, q2, q3⟩ := ih h4
      exact ⟨q1, Nat.le_trans q2 (Nat.le_succ _), q3⟩
    | succ j => exact ⟨h, Nat.le_refl _, by show 1 ≤ (_ :: _ : FR).length; simp⟩
theorem chOk_app {K P K' P' : List Nat} (hK : ∀ i k : Nat, K[i]? = some k → K'[i]? = some k) (hP : ∀ i k : Nat, P[i]? = some k → P'[i]? = some k) : ∀ {fr : FR}, chOk K P fr → chOk K' P' fr := by
  intro fr
  induction fr with
  | nil => intro h; exact h
  | cons v fr ih =>
    intro h
    obtain ⟨j, i⟩ := v
    cases j with
    | zero => exact ⟨hK _ _ h.1, hP _ _ h.2.1, h.2.2.1, ih h.2.2.2⟩
    | succ j =>
      cases fr with
      | nil => exact ⟨hK _ _ h.1, hP _ _ h.2.1, h.2.2.1, hK _ _ h.2.2.2.1, h.2.2.2.2⟩
      | cons w fr => exact ⟨hK _ _ h.1, hP _ _ h.2.1, h.2.2.1, hK _ _ h.2.2.2.1, hP _ _ h.2.2.2.2.1, h.2.2.2.2.2.1, ih h.2.2.2.2.2.2⟩
theorem app_at {l m : List Nat} {i k : Nat} (h : l[i]? = some k) : (l ++ m)[i]? = some k := by
  obtain ⟨q, _⟩ := List.getElem?_eq_some_iff.mp h
  rw [List.getElem?_append_left q]; exact h
def qNode (Q : CT) (k p l : Nat) : CT := (va_up (va_up (va_up Q.1 7 (Q.1 7 ++ [k])) 8 (Q.1 8 ++ [p])) 9 (Q.1 9 ++ [l]), Q.2)
def qCur (Q : CT) (c : Nat) : CT := (Q.1, va_up Q.2 11 c)
def qEnd (Q : CT) (fr : FR) : CT := (Q.1, va_up (va_up (va_up Q.2 11 (hd (dn fr))) 12 ((dn fr).length - 1)) 13 0)
section
variable {L d : Nat} {z : zS} {t : Nat} {Q : CT} {qb : List Nat}
theorem c38 (h : isQ t) : zden L (d + 2) 38 [.ref t] (putQ z t Q) = some (nI (Q.1 6).length, putQ z t Q) := by
  rw [N38 _ (obQ h), B38_0, R3_6 h, Option.bind_some, Q6s h, Option.bind_some]
theorem c41 (h : isQ t) (k p l : Nat) (l7 : (Q.1 7).length < 400) (l8 : (Q.1 8).length = (Q.1 7).length) (l9 : (Q.1 9).length = (Q.1 7).length) : zden L (d + 3) 41 [.ref t, .int (nI k), .int (nI p), .int (nI l)] (putQ z t Q) = some (nI (Q.1 7).length, putQ z t (qNode Q k p l)) := by
  rw [N41 _ _ _ _ (obQ h), B41_0, R3_7 h, Option.bind_some, Q7a h _ l7, Option.bind_some, R3_8 h, Option.bind_some, Q8a h _ (show ((va_up Q.1 7 (Q.1 7 ++ [k]), Q.2).1 8).length < 400 from by show (Q.1 8).length < 400; omega), Option.bind_some, R3_9 h, Option.bind_some, Q9a h _ (by show (Q.1 9).length < 400; omega), Option.bind_some, R3_7 h, Option.bind_some, Q7s h, Option.bind_some]
  show some (nI (Q.1 7 ++ [k]).length - nI 1, _) = _
  rw [List.length_append, pk_sub (by simp)]
  rfl
/-- an entry of a row of nodes -/
theorem g7 {l : List Nat} {i k : Nat} (h : l[i]? = some k) (hl : l.length ≤ 400) : zget (l.map nI) (nI i) = nI k := by
  obtain ⟨q, _⟩ := List.getElem?_eq_some_iff.mp h
  rw [zget_map q (by omega), gDo h]
theorem c44_loop (h : isQ t) : ∀ (r n : Nat) (fr : FR) (Q : CT), n + r = 8 → chOk (Q.1 7) (Q.1 8) fr → (Q.1 7).length ≤ 400 → (Q.1 8).length ≤ 400 → Q.2 11 = hd fr → Q.2 12 + 1 = fr.length → fr.length ≤ r + 1 →
    xruns (O2 L) (zden L (d + 1)) 44 2 [.ref t, .int (nI n)] [] (putQ z t Q) = some (0, putQ z t (qEnd Q fr)) := by
  have fin : ∀ (n : Nat) (fr : FR) (Q : CT), Q.2 11 = hd fr → Q.2 12 + 1 = fr.length → dn fr = fr → xruns (O2 L) (zden L (d + 1)) 44 54 [.ref t, .int (nI n)] [] (putQ z t Q) = some (0, putQ z t (qEnd Q fr)) := by
    intro n fr Q h11 h12 hd'
    rw [B44_54, iO0, Q13p h, Option.bind_some]
    refine congrArg some (congrArg (Prod.mk _) (congrArg (putQ z t) (Prod.ext rfl (funext fun f => ?_))))
    show va_up Q.2 13 0 f = va_up (va_up (va_up Q.2 11 (hd (dn fr))) 12 ((dn fr).length - 1)) 13 0 f
    rw [hd', ← h11, show fr.length - 1 = Q.2 12 by omega, vi, vi]
  have one : ∀ (r n : Nat) (v : Nat × Nat) (fr : FR) (Q : CT), n < 8 → chOk (Q.1 7) (Q.1 8) (v :: fr) → (Q.1 7).length ≤ 400 → Q.2 11 = hd (v :: fr) → ∃ k, (Q.1 7)[v.2]? = some k ∧ k ≤ 2 ∧ xruns (O2 L) (zden L (d + 1)) 44 2 [.ref t, .int (nI n)] [] (putQ z t Q) = if k = 2 then xruns (O2 L) (zden L (d + 1)) 44 23 [.ref t, .int (nI n)] [] (putQ z t Q) else xruns (O2 L) (zden L (d + 1)) 44 54 [.ref t, .int (nI n)] [] (putQ z t Q) := by
    intro r n v fr Q hn hc l7 h11
    obtain ⟨k, hk, hk2⟩ : ∃ k, (Q.1 7)[v.2]? = some k ∧ k ≤ 2 := by
      obtain ⟨j, i⟩ := v
      cases j with
      | zero => exact ⟨2, hc.1, by omega⟩
      | succ j =>
        cases fr with
        | nil => exact ⟨1, hc.1, by omega⟩
        | cons w fr => exact ⟨1, hc.1, by omega⟩
    refine ⟨k, hk, hk2, ?_⟩
    rw [B44_2, iL (by omega) (by omega), if_neg (by omega), B44_8, R3_7 h, Option.bind_some, Q11r h, Option.bind_some, Q7g h, Option.bind_some, h11]
    show (if zget ((Q.1 7).map nI) (nI v.2) = nI 2 then _ else _) = _
    rw [g7 hk l7, iE (by omega) (by omega)]
  intro r
  induction r with
  | zero =>
    intro n fr Q hn hc l7 l8 h11 h12 hr
    rw [B44_2, iL (by omega) (by omega), if_pos (by omega)]
    refine fin n fr Q h11 h12 ?_
    match fr, hc, hr with
    | [(0, i)], hc, _ => exact absurd hc.2.2.2 id
    | (j + 1, i) :: fr, hc, _ => rfl
    | (0, i) :: v :: fr, hc, hr => simp at hr
  | succ r ih =>
    intro n fr Q hn hc l7 l8 h11 h12 hr
    match fr, hc, h11, h12, hr with
    | (0, i) :: fr, hc, h11, h12, hr =>
      obtain ⟨k, hk, _, e⟩ := one r n (0, i) fr Q (by omega) hc l7 h11
      obtain ⟨c1, c2, c3, c4⟩ := hc
      have hk : (Q.1 7)[i]? = some k := hk
      have k2 : k = 2 := by rw [hk] at c1; cases c1; rfl
      simp only [List.length_cons] at h12 hr
      have h11 : Q.2 11 = i := h11
      have fl : 1 ≤ fr.length := Nat.le_trans (dn_ok c4).2.2 (dn_ok c4).2.1
      rw [e, if_pos k2, B44_23, R3_8 h, Option.bind_some, Q11r h, Option.bind_some, h11, Q8g h, Option.bind_some, g7 c2 l8, Q11p h, Option.bind_some, Q12r h, Option.bind_some]
      show ((O2 L).2.2.1 _ t 3 12 (.int (nI (Q.2 12) - nI 1))).bind _ = _
      rw [pk_sub (by omega), Q12p h, Option.bind_some, nI_add]
      refine Eq.trans (ih (n + 1) fr (Q.1, va_up (va_up Q.2 11 (hd fr)) 12 (Q.2 12 - 1)) (by omega) c4 l7 l8 (by show va_up (va_up Q.2 11 (hd fr)) 12 (Q.2 12 - 1) 11 = _; rw [vn _ _ (by omega), vs]) (by show va_up (va_up Q.2 11 (hd fr)) 12 (Q.2 12 - 1) 12 + 1 = _; rw [vs]; omega) (by omega)) ?_
      refine congrArg some (congrArg (Prod.mk _) (congrArg (putQ z t) (Prod.ext rfl (funext fun f => ?_))))
      show va_up (va_up (va_up (va_up (va_up Q.2 11 (hd fr)) 12 (Q.2 12 - 1)) 11 (hd (dn fr))) 12 ((dn fr).length - 1)) 13 0 f = va_up (va_up (va_up Q.2 11 (hd (dn fr))) 12 ((dn fr).length - 1)) 13 0 f
      by_cases q1 : f = 13
      · subst q1; rw [vs, vs]
      · by_cases q2 : f = 12
        · subst q2; simp (disch := omega) only [vs, vn]
        · by_cases q3 : f = 11
          · subst q3; simp (disch := omega) only [vs, vn]
          · rw [vn _ _ q1, vn _ _ q2, vn _ _ q3, vn _ _ q2, vn _ _ q3, vn _ _ q1, vn _ _ q2, vn _ _ q3]
    | (j + 1, i) :: fr, hc, h11, h12, hr =>
      obtain ⟨k, hk, _, e⟩ := one r n (j + 1, i) fr Q (by omega) hc l7 h11
      have hk : (Q.1 7)[i]? = some k := hk
      have k1 : k = 1 := by
        cases fr with
        | nil => rw [hc.1] at hk; cases hk; rfl
        | cons w fr => rw [hc.1] at hk; cases hk; rfl
      rw [e, if_neg (by omega)]
      exact fin n _ Q h11 h12 rfl
theorem c44 (h : isQ t) {fr : FR} (hc : chOk (Q.1 7) (Q.1 8) fr) (l7 : (Q.1 7).length ≤ 400) (l8 : (Q.1 8).length ≤ 400) (h11 : Q.2 11 = hd fr) (h12 : Q.2 12 + 1 = fr.length) (hr : fr.length ≤ 9) : zden L (d + 2) 44 [.ref t] (putQ z t Q) = some (0, putQ z t (qEnd Q fr)) := by
  rw [N44 _ (obQ h), B44_0]
  exact c44_loop h 8 0 fr Q (by omega) hc l7 l8 h11 h12 hr
end
