/-! THE CLASS'S QUERY: terms, phrases, room -/
abbrev BAD32 : Nat := 4294967295
theorem nI_BAD : nI BAD32 = -1 := rfl
/-- how many word signs stand from k on -/
def wrun (qb : List Nat) (k : Nat) : Nat := ((qb.drop k).takeWhile isWd).length
theorem twW_lt {l : List Nat} : ∀ {i : Nat}, i < (l.takeWhile isWd).length → l[i]?.any isWd = true := by
  induction l with
  | nil => intro i h; simp at h
  | cons v l ih =>
    intro i h
    by_cases hv : isWd v = true
    · rw [List.takeWhile_cons, if_pos hv] at h
      cases i with
      | zero => simpa using hv
      | succ i => simpa using ih (by simpa using h)
    · rw [List.takeWhile_cons, if_neg hv] at h
      simp at h
theorem twW_end {l : List Nat} : l[(l.takeWhile isWd).length]?.any isWd = false := by
  induction l with
  | nil => rfl
  | cons v l ih =>
    by_cases hv : isWd v = true
    · rw [List.takeWhile_cons, if_pos hv]
      simpa using ih
    · rw [List.takeWhile_cons, if_neg hv]
      simpa using hv
theorem wrun_lt {qb : List Nat} {k i : Nat} (h : i < wrun qb k) : qb[k + i]?.any isWd = true := by
  have := twW_lt (l := qb.drop k) h
  rwa [List.getElem?_drop] at this
theorem wrun_end (qb : List Nat) (k : Nat) : qb[k + wrun qb k]?.any isWd = false := by
  have := twW_end (l := qb.drop k)
  rwa [List.getElem?_drop] at this
theorem wrun_in (qb : List Nat) (k : Nat) : k + wrun qb k ≤ max k qb.length := by
  by_cases h : wrun qb k = 0
  · omega
  · have he := wrun_lt (qb := qb) (k := k) (i := wrun qb k - 1) (by omega)
    cases hc : qb[k + (wrun qb k - 1)]? with
    | none => rw [hc] at he; cases he
    | some c =>
      obtain ⟨h1, _⟩ := List.getElem?_eq_some_iff.mp hc
      omega
/-- how many blanks stand from k on -/
def brun (qb : List Nat) (k : Nat) : Nat := ((qb.drop k).takeWhile (fun c => c == 32)).length
theorem brun_s {qb : List Nat} {k : Nat} (h : qb[k]? = some 32) : brun qb k = brun qb (k + 1) + 1 := by
  obtain ⟨h1, h2⟩ := List.getElem?_eq_some_iff.mp h
  unfold brun
  rw [List.drop_eq_getElem_cons h1, h2, List.takeWhile_cons]
  rfl
theorem brun_0 {qb : List Nat} {k : Nat} (h : qb[k]? ≠ some 32) : brun qb k = 0 := by
  unfold brun
  by_cases h1 : k < qb.length
  · rw [List.drop_eq_getElem_cons h1, List.takeWhile_cons, if_neg]
    · rfl
    · intro q
      rw [List.getElem?_eq_getElem h1] at h
      exact h (by rw [eq_of_beq q])
  · rw [List.drop_eq_nil_of_le (by omega)]; rfl
theorem brun_in (qb : List Nat) : ∀ (r k : Nat), qb.length ≤ k + r → k + brun qb k ≤ max k qb.length := by
  intro r
  induction r with
  | zero => intro k h; rw [brun_0 (by rw [List.getElem?_eq_none (by omega)]; exact fun q => by cases q)]; omega
  | succ r ih =>
    intro k h
    by_cases q : qb[k]? = some 32
    · obtain ⟨h1, h2⟩ := List.getElem?_eq_some_iff.mp q
      have := ih (k + 1) (by omega)
      rw [brun_s q]
      omega
    · rw [brun_0 q]; omega
theorem brun_end (qb : List Nat) : ∀ (r k : Nat), qb.length ≤ k + r → qb[k + brun qb k]? ≠ some 32 := by
  intro r
  induction r with
  | zero => intro k h; rw [List.getElem?_eq_none (by omega)]; exact fun q => by cases q
  | succ r ih =>
    intro k h
    by_cases q : qb[k]? = some 32
    · have := ih (k + 1) (by omega)
      rw [brun_s q, show k + (brun qb (k + 1) + 1) = k + 1 + brun qb (k + 1) by omega]
      exact this
    · rw [brun_0 q]; exact q
def qAt (Q : CT) (p : Nat) : CT := (Q.1, va_up Q.2 10 p)
def qKind (qb : List Nat) (p : Nat) : Nat := if qb[p]? = some 42 then 1 else if qb[p]? = some 126 then 2 else 0
def qTerm (qb : List Nat) (Q : CT) : Bool × CT :=
  if wrun qb (Q.2 10) = 0 then (false, Q)
  else if 20 < wrun qb (Q.2 10) then (false, qAt Q (Q.2 10 + 20))
  else (true, (va_up (va_up (va_up Q.1 1 (Q.1 1 ++ [Q.2 10])) 2 (Q.1 2 ++ [wrun qb (Q.2 10)])) 3 (Q.1 3 ++ [qKind qb (Q.2 10 + wrun qb (Q.2 10))]), va_up Q.2 10 (Q.2 10 + wrun qb (Q.2 10) + (if qKind qb (Q.2 10 + wrun qb (Q.2 10)) = 0 then 0 else 1))))
section
variable {L d : Nat} {z : zS} {t : Nat} {Q : CT} {qb : List Nat}
theorem q56 (h : isQ t) (hz : Q.1 0 = qb) (hb : BB qb) {i : Nat} (hi : i < 2 ^ 31) : zden L (d + 1) 56 [.ref (t + 1), .int (nI i)] (putQ z t Q) = some (oz qb[i]?, putQ z t Q) := c56 (W3_0 h).1 (by rw [gQ0, hz]) hb hi
theorem c52 (h : isQ t) (hb : BB qb) {p : Nat} (hp : Q.2 10 = p) : zden L (d + 1) 52 [.ref t, .int (oz qb[p]?)] (putQ z t Q) = some (nI (qKind qb p), putQ z t (qAt Q (p + (if qKind qb p = 0 then 0 else 1)))) := by
  rw [N52 _ _ (obQ h), B52_0, iZ hb (by omega)]
  unfold qKind
  by_cases e1 : qb[p]? = some 42
  · rw [if_pos e1, if_pos e1, B52_14, Q10r h, Option.bind_some, hp, nI_add, Q10p h, Option.bind_some, iZ hb (by omega), if_pos e1, B52_30, B52_35]
    rfl
  · rw [if_neg e1, if_neg e1, B52_6, iZ hb (by omega)]
    by_cases e2 : qb[p]? = some 126
    · rw [if_pos e2, if_pos e2, B52_14, Q10r h, Option.bind_some, hp, nI_add, Q10p h, Option.bind_some, iZ hb (by omega), if_neg e1, B52_34, B52_35]
      rfl
    · rw [if_neg e2, if_neg e2, B52_12]
      have : qAt Q (p + 0) = Q := by
        unfold qAt
        rw [Nat.add_zero, ← hp, vi]
      show _ = some (nI 0, putQ z t (qAt Q (p + 0)))
      rw [this]
theorem c51_loop (h : isQ t) (hb : BB qb) {p : Nat} {v : Value} (hp : p ≤ 1000) : ∀ (r n : Nat) (Q : CT), Q.1 0 = qb → Q.2 10 = p + n → n ≤ wrun qb p → n + r = 20 → xruns (O2 L) (zden L (d + 3)) 51 5 [.ref t, .int (nI p), v] [] (putQ z t Q) = xruns (O2 L) (zden L (d + 3)) 51 46 [.ref t, .int (nI p), v] [] (putQ z t (qAt Q (p + min (wrun qb p) 20))) := by
  intro r
  induction r with
  | zero =>
    intro n Q hz hq hn hr
    have : qAt Q (p + min (wrun qb p) 20) = Q := by
      unfold qAt
      rw [show p + min (wrun qb p) 20 = Q.2 10 by omega, vi]
    rw [this, B51_5, Q10r h, Option.bind_some, hq, nI_add, iL (by omega) (by omega), if_pos (by omega)]
  | succ r ih =>
    intro n Q hz hq hn hr
    rw [B51_5, Q10r h, Option.bind_some, hq, nI_add, iL (by omega) (by omega), if_neg (by omega), B51_16, R3_0 h, Option.bind_some, Q10r h, Option.bind_some, hq, q56 h hz hb (by omega), Option.bind_some, c107 (fun k => hb.at), Option.bind_some, iB]
    by_cases e : n < wrun qb p
    · rw [if_pos (wrun_lt e), B51_33, Q10r h, Option.bind_some, hq, nI_add, Q10p h, Option.bind_some, ih (n + 1) (Q.1, va_up Q.2 10 (p + n + 1)) hz (by show va_up Q.2 10 (p + n + 1) 10 = _; rw [vs]; rfl) (by omega) (by omega)]
      congr 2
      unfold qAt
      simp only
      congr 1
      funext i
      unfold va_up
      split <;> rfl
    · have hw : n = wrun qb p := by omega
      have : qAt Q (p + min (wrun qb p) 20) = Q := by
        unfold qAt
        rw [show p + min (wrun qb p) 20 = Q.2 10 by omega, vi]
      rw [hw, if_neg (by rw [wrun_end]; decide), this]
theorem c51 (h : isQ t) (hz : Q.1 0 = qb) (hb : BB qb) (hp : Q.2 10 ≤ qb.length) (l1 : (Q.1 1).length < 72) (l2 : (Q.1 2).length = (Q.1 1).length) (l3 : (Q.1 3).length = (Q.1 1).length) : zden L (d + 4) 51 [.ref t] (putQ z t Q) = some (bI (qTerm qb Q).1, putQ z t (qTerm qb Q).2) := by
  have hb2 := hb.2
  have hin := wrun_in qb (Q.2 10)
  rw [N51 _ (obQ h), B51_0, Q10r h, Option.bind_some, c51_loop h hb (by omega) 20 0 Q hz (by omega) (Nat.zero_le _) (by omega), B51_46, Q10r h, Option.bind_some]
  show (if nI (Q.2 10 + min (wrun qb (Q.2 10)) 20) - nI (Q.2 10) = nI 0 then _ else _) = _
  unfold qTerm
  rw [pk_sub (by omega), iE (by omega) (by omega)]
  by_cases e0 : wrun qb (Q.2 10) = 0
  · rw [if_pos (by omega), if_pos e0, B51_74, iO0]
    have : qAt Q (Q.2 10 + min (wrun qb (Q.2 10)) 20) = Q := by
      unfold qAt
      rw [show Q.2 10 + min (wrun qb (Q.2 10)) 20 = Q.2 10 by omega, vi]
    rw [this]; rfl
  · have z1 : (qAt Q (Q.2 10 + min (wrun qb (Q.2 10)) 20)).1 0 = qb := hz
    rw [if_neg (by omega), if_neg e0, B51_57, R3_0 h, Option.bind_some, Q10r h, Option.bind_some]
    show ((zden L (d + 3) 56 [.ref (t + 1), .int (nI (Q.2 10 + min (wrun qb (Q.2 10)) 20))] _).bind _) = _
    rw [q56 h z1 hb (by omega), Option.bind_some, c107 (fun k => hb.at), Option.bind_some, iB]
    by_cases e1 : 20 < wrun qb (Q.2 10)
    · have := wrun_lt (qb := qb) (k := Q.2 10) (i := 20) e1
      rw [show min (wrun qb (Q.2 10)) 20 = 20 by omega, if_pos this, if_pos e1, B51_74, iO0]; rfl
    · have he := wrun_end qb (Q.2 10)
      rw [show min (wrun qb (Q.2 10)) 20 = wrun qb (Q.2 10) by omega, if_neg (by rw [he]; decide), if_neg e1]
      show xruns (O2 L) (zden L (d + 3)) 51 76 [.ref t, .int (nI (Q.2 10)), .int (nI (Q.2 10 + wrun qb (Q.2 10)) - nI (Q.2 10))] [] (putQ z t (qAt Q (Q.2 10 + wrun qb (Q.2 10)))) = _
      rw [pk_sub (by omega), B51_76, R3_1 h, Option.bind_some, Q1a h _ (show ((qAt Q (Q.2 10 + wrun qb (Q.2 10))).1 1).length < 72 from l1), Option.bind_some, R3_2 h, Option.bind_some, show Q.2 10 + wrun qb (Q.2 10) - Q.2 10 = wrun qb (Q.2 10) by omega, Q2a h _ (by show (Q.1 2).length < 72; omega), Option.bind_some, R3_3 h, Option.bind_some, R3_0 h, Option.bind_some, Q10r h, Option.bind_some]
      show ((zden L (d + 3) 56 [.ref (t + 1), .int (nI (Q.2 10 + wrun qb (Q.2 10)))] _).bind _) = _
      rw [q56 h (qb := qb) (by exact hz) hb (by omega), Option.bind_some, c52 h hb (p := Q.2 10 + wrun qb (Q.2 10)) (by show va_up Q.2 10 (Q.2 10 + wrun qb (Q.2 10)) 10 = _; rw [vs]), Option.bind_some, Q3a h _ (by show (Q.1 3).length < 72; omega), Option.bind_some, iO1]
      refine congrArg some (congrArg (Prod.mk _) (putQ_congr (fun k hk => ?_) (fun f h1 h2 => ?_)))
      · rfl
      · show va_up (va_up Q.2 10 _) 10 _ f = va_up Q.2 10 _ f
        by_cases q : f = 10
        · subst q; rw [vs, vs]
        · rw [vn _ _ q, vn _ _ q, vn _ _ q]
end
