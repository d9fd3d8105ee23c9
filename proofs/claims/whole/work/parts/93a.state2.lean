/-! THE WHOLE STATE: query and limit of the class -/
section
variable {L d : Nat} {Z : zS} {tp bs : List Nat} {Q : CT} {S : Option Sem} {lim : Nat} {pf pl ot : List Nat}
theorem qgo_le {qb : List Nat} : ∀ (r : Nat) (Q : CT) (fr : FR) (D : DD) (p : Nat), WfQ qb Q fr → qb.length < Q.2 10 + r → (qgo qb r Q fr D).1 = some p → p ≤ qb.length := by
  intro r
  induction r with
  | zero => intro Q fr D p w hr h; have := w.1.2.1; omega
  | succ r ih =>
    intro Q fr D p w hr h
    rw [qgo] at h
    by_cases e : qb.length ≤ (qSkip qb Q).2 10
    · simp only [if_pos e] at h
      split at h
      · cases h
      · cases h; exact Nat.le_refl _
    · simp only [if_neg e] at h
      have hlt : (qSkip qb Q).2 10 < qb.length := by omega
      have hc : qb[(qSkip qb Q).2 10]? = some (qb.getD ((qSkip qb Q).2 10) 0) := by rw [gD hlt]; exact List.getElem?_eq_getElem hlt
      have sk : Q.2 10 ≤ (qSkip qb Q).2 10 := by
        unfold qSkip
        rw [qAt_10]; omega
      by_cases T : (qStep qb (qSkip qb Q) fr (qb.getD ((qSkip qb Q).2 10) 0)).1 = true
      · simp only [if_pos T] at h
        obtain ⟨w2, hl2⟩ := qStep_wf (qSkip_wf w) hc T
        exact ih _ _ _ p w2 (by omega) h
      · simp only [if_neg T] at h
        cases h
        exact qStep_le (qSkip_wf w) hc (by simpa using T)
theorem c_query (h : CI Z tp bs Q S lim pf pl ot) (hb : BB tp) (hbs : BB bs) (hr : (cread bs).1 = none) (hl : lim ≤ 300) :
    ∃ Z', SM Z Z' ∧ (∀ p, (qread tp).1 = some p → zden L (d + 9) 90 [.ref 1] Z = some (-1 - nI p, Z') ∧ p ≤ tp.length ∧ CI Z' [] bs Q S lim [] [] ot) ∧ ((qread tp).1 = none → zden L (d + 9) 90 [.ref 1] Z = some (nI ((qread tp).2.1.1 6).length, Z') ∧ CI Z' [] bs (qread tp).2.1 (some (finS (qread tp).2.2.2)) lim [] [] ot) := by
  obtain ⟨t, t2, q, q2, M, a1, a2, a3, a4, a5, a6, a7, a8, a9, a10, a11, a12⟩ := h
  obtain ⟨r1, r2, r3, r4, r5, r6⟩ := a5
  have hq2 : isQ q2 := by
    rcases a2 with ⟨_, e⟩ | ⟨_, e⟩
    · exact Or.inr e
    · exact Or.inl e
  obtain ⟨T2, eT⟩ := anyQ Z q2
  have e39 := c39 (L := L) (d := d) (z := Z) (t := q2) (bs := tp) hq2 hb a6 T2
  rw [eT] at e39
  have e39 : zden L (d + 8) 39 [.ref q2, .ref 2] Z = some (fI (qread tp).1, putQ Z q2 (qread tp).2.1) := e39
  generalize hZ3 : zrs (zrs (zrs (putQ Z q2 (qread tp).2.1) 2 []) 79 []) 81 [] = Z3
  have rows : ∀ a, a ≠ 2 → a ≠ 79 → a ≠ 81 → ¬ (q2 ≤ a ∧ a ≤ q2 + 19) → Z3.1 a = Z.1 a := fun a h1 h2 h3 h4 => by
    rw [← hZ3, zrs_o h3, zrs_o h2, zrs_o h1, putQ_o h4]
  have flds : ∀ a, a ≠ q2 → Z3.2.1 a = Z.2.1 a := fun a ha => by rw [← hZ3]; exact putQ_f ha
  have ptr : Z3.2.2.2 = Z.2.2.2 := by rw [← hZ3]; rfl
  have arr : Z3.2.2.1 = Z.2.2.1 := by rw [← hZ3]; rfl
  have z2 : Z3.1 2 = ([] : List Nat).map nI := by
    rw [← hZ3, zrs_o (by omega), zrs_o (by omega), zrs_s]; rfl
  have z79 : Z3.1 79 = ([] : List Nat).map nI := by rw [← hZ3, zrs_o (by omega), zrs_s]; rfl
  have z81 : Z3.1 81 = ([] : List Nat).map nI := by rw [← hZ3, zrs_s]; rfl
  have zq2 : ∀ k, k ≤ 9 → Z3.1 (q2 + (2 * k + 1)) = ((qread tp).2.1.1 k).map nI := fun k hk => by
    have n2 : q2 + (2 * k + 1) ≠ 2 := by rcases hq2 with e | e <;> omega
    have n79 : q2 + (2 * k + 1) ≠ 79 := by rcases hq2 with e | e <;> omega
    have n81 : q2 + (2 * k + 1) ≠ 81 := by rcases hq2 with e | e <;> omega
    rw [← hZ3, zrs_o n81, zrs_o n79, zrs_o n2]
    exact gQk k hk
  have zt : ∀ k, k ≤ 9 → Z3.1 (t + (2 * k + 1)) = ((cread bs).2.1 k).map nI := fun k hk => by
    rw [rows _ (by rcases a1 with e | e <;> omega) (by rcases a1 with e | e <;> omega) (by rcases a1 with e | e <;> omega) (by rcases a1 with e | e <;> rcases a2 with e' | e' <;> omega)]
    exact r5 k hk
  have zq : ∀ k, k ≤ 9 → Z3.1 (q + (2 * k + 1)) = (Q.1 k).map nI := fun k hk => by
    rw [rows _ (by rcases a2 with e | e <;> omega) (by rcases a2 with e | e <;> omega) (by rcases a2 with e | e <;> omega) (by rcases a2 with e' | e' <;> omega)]
    exact r6 k hk
  have zm : ∀ a, 50 ≤ a → a ≤ 76 → Z3.1 a = Z.1 a := fun a h1 h2 => rows a (by omega) (by omega) (by omega) (by rcases a2 with e | e <;> omega)
  have z86 : Z3.1 86 = ot.map nI := by rw [rows 86 (by omega) (by omega) (by omega) (by rcases a2 with e | e <;> omega)]; exact a12
  have f1 : Z3.2.1 1 = Z.2.1 1 := flds 1 (by rcases a2 with e | e <;> omega)
  have f4 : Z3.2.1 4 = Z.2.1 4 := flds 4 (by rcases a2 with e | e <;> omega)
  have f136 : Z3.2.1 136 = Z.2.1 136 := flds 136 (by rcases a2 with e | e <;> omega)
  have start : zden L (d + 9) 90 [.ref 1] Z = if fI (qread tp).1 = -1 then xruns (O2 L) (zden L (d + 8)) 90 35 [.ref 1, .int (fI (qread tp).1), .null] [] Z3 else xruns (O2 L) (zden L (d + 8)) 90 31 [.ref 1, .int (fI (qread tp).1), .null] [] Z3 := by
    rw [N90 _ ob1, B90_0, J1_5, Option.bind_some, a4, J1_0, Option.bind_some, e39, Option.bind_some, J1_0, Option.bind_some, N63 rfl, Option.bind_some, J1_2, Option.bind_some, x1, Option.bind_some, ← hZ3]
  cases hc : (qread tp).1 with
  | some p =>
    have lm : (tp.map lo).length = tp.length := List.length_map _
    have pl1 : p ≤ tp.length := by
      have := qgo_le _ _ _ _ p (Q0_wf (tp.map lo)) (by show (tp.map lo).length < 0 + (tp.length + 1); omega) hc
      omega
    have hb2 := hb.2
    refine ⟨Z3, ⟨f136, arr⟩, fun p' hp => ?_, fun q => by cases q⟩
    cases hp
    refine ⟨?_, pl1, t, t2, q, q2, M, a1, a2, by rw [ptr]; exact a3, by rw [ptr]; exact a4, ⟨r1, r2, by rw [ptr]; exact r3, by rw [ptr]; exact r4, zt, zq⟩, z2, by rw [f1]; exact a7, putM_same a8 zm (by rw [f4]), a9, z79, z81, z86⟩
    rw [start, hc]
    show (if nI p = -1 then _ else _) = _
    rw [if_neg (fun q => m1_ne (show p < 2 ^ 31 by omega) q.symm), B90_31]
    rfl
  | none =>
    obtain ⟨to, _, _, _, _, _⟩ := txt_ok hbs hr
    obtain ⟨qo, _⟩ := qry_ok hb hc
    generalize hZ5 : ((Z3.1, Z3.2.1, Z3.2.2.1, zup (zup Z3.2.2.2 4 1 q2) 1 5 q) : zS) = Z5
    have p41 : Z5.2.2.2 4 1 = q2 := by rw [← hZ5]; unfold zup; simp
    have p15 : Z5.2.2.2 1 5 = q := by rw [← hZ5]; unfold zup; simp
    have p40 : Z5.2.2.2 4 0 = t := by rw [← hZ5]; show zup (zup Z3.2.2.2 4 1 q2) 1 5 q 4 0 = t; unfold zup; simp; rw [ptr]; exact r3
    have p14 : Z5.2.2.2 1 4 = t2 := by rw [← hZ5]; show zup (zup Z3.2.2.2 4 1 q2) 1 5 q 1 4 = t2; unfold zup; simp; rw [ptr]; exact a3
    have R5 : Z5.1 = Z3.1 := by rw [← hZ5]
    have F5 : Z5.2.1 = Z3.2.1 := by rw [← hZ5]
    have A5 : Z5.2.2.1 = Z3.2.2.1 := by rw [← hZ5]
    have M5 : Z5 = putM Z5 M := putM_same a8 (fun a h1 h2 => by rw [R5]; exact zm a h1 h2) (by rw [F5, f4])
    have ro5 : RO Z5 t q2 (cread bs).2 (qread tp).2.1 := ⟨r1, hq2, p40, p41, by rw [R5]; exact zt, by rw [R5]; exact zq2⟩
    obtain ⟨M', e10, jr⟩ := x10 (L := L) (d := d + 1) (z := Z5) (M := M) (n := lim) ro5 to qo hl
    rw [← M5] at e10
    have go : ∀ a, ¬ (50 ≤ a ∧ a ≤ 76 ∧ a % 2 = 0) → (putM Z5 M').1 a = Z3.1 a := fun a ha => by rw [gMo ha, R5]
    refine ⟨putM Z5 M', ⟨?_, ?_⟩, (fun p q => by cases q), fun _ => ⟨?_, t, t2, q2, q, M', a1, by rcases a2 with e | e; exact Or.inr ⟨e.2, e.1⟩; exact Or.inl ⟨e.2, e.1⟩, p14, p15, ⟨r1, hq2, p40, p41, fun k hk => ?_, fun k hk => ?_⟩, ?_, ?_, (putM_putM _ _ _).symm, jr, ?_, ?_, ?_⟩⟩
    · rw [putM_f (by omega), F5, f136]
    · show Z5.2.2.1 = _
      rw [A5, arr]
    · rw [start, hc, if_pos fI_1, B90_35, J1_1, Option.bind_some, J4_1, Option.bind_some, ptr, r4, Option.bind_some, J1_5, Option.bind_some, ptr, a4, K4_1, Option.bind_some, K1_5, Option.bind_some]
      show ((O2 L).2.1 (Z3.1, Z3.2.1, Z3.2.2.1, zup (zup Z3.2.2.2 4 1 q2) 1 5 q) 1 7 1).bind _ = _
      rw [hZ5, J1_1, Option.bind_some, J1_6, Option.bind_some, F5, f1, a7, e10, Option.bind_some, J1_1, Option.bind_some, XP1 ro5, Option.bind_some, x38 ro5, Option.bind_some]
    · rw [go _ (by rcases r1 with e | e <;> omega)]
      exact zt k hk
    · rw [go _ (by rcases hq2 with e | e <;> omega)]
      exact zq2 k hk
    · rw [go 2 (by omega)]; exact z2
    · rw [putM_f (by omega), F5, f1]; exact a7
    · rw [go 79 (by omega)]; exact z79
    · rw [go 81 (by omega)]; exact z81
    · rw [go 86 (by omega)]; exact z86
theorem c_limit (h : CI Z tp bs Q S lim pf pl ot) (hbs : BB bs) (hr : (cread bs).1 = none) (qo : QOK Q S) (x : Int32) :
    (x < nI 0 ∨ ¬ x ≤ nI 300 → zden L (d + 9) 91 [.ref 1, .int x] Z = some (-1, Z)) ∧ (∀ n, x = nI n → n ≤ 300 → ∃ Z', SM Z Z' ∧ zden L (d + 9) 91 [.ref 1, .int x] Z = some (nI lim, Z') ∧ CI Z' tp bs Q S n [] [] ot) := by
  obtain ⟨t, t2, q, q2, M, a1, a2, a3, a4, a5, a6, a7, a8, a9, a10, a11, a12⟩ := h
  obtain ⟨r1, r2, r3, r4, r5, r6⟩ := a5
  refine ⟨fun hx => ?_, fun n hx hn => ?_⟩
  · rw [N91 _ _ ob1, B91_0]
    by_cases c : x < nI 0
    · rw [if_pos c, B91_11]
    · rw [if_neg c, B91_4, if_neg (hx.resolve_left c), B91_11]
  · subst hx
    obtain ⟨to, _, _, _, _, _⟩ := txt_ok hbs hr
    generalize hZ3 : zrs (zrs (Z.1, zup Z.2.1 1 6 (nI n), Z.2.2) 79 []) 81 [] = Z3
    have rows : ∀ a, a ≠ 79 → a ≠ 81 → Z3.1 a = Z.1 a := fun a h2 h3 => by
      rw [← hZ3, zrs_o h3, zrs_o h2]
    have flds : ∀ a, a ≠ 1 → Z3.2.1 a = Z.2.1 a := fun a ha => by
      rw [← hZ3]
      funext f
      show zup Z.2.1 1 6 (nI n) a f = _
      unfold zup
      rw [if_neg (fun q => ha q.1)]
    have f16 : Z3.2.1 1 6 = nI n := by rw [← hZ3]; show zup Z.2.1 1 6 (nI n) 1 6 = _; unfold zup; simp
    have ptr : Z3.2.2.2 = Z.2.2.2 := by rw [← hZ3]; rfl
    have arr : Z3.2.2.1 = Z.2.2.1 := by rw [← hZ3]; rfl
    have z79 : Z3.1 79 = ([] : List Nat).map nI := by rw [← hZ3, zrs_o (by omega), zrs_s]; rfl
    have z81 : Z3.1 81 = ([] : List Nat).map nI := by rw [← hZ3, zrs_s]; rfl
    have M3 : Z3 = putM Z3 M := putM_same a8 (fun a h1 h2 => rows a (by omega) (by omega)) (by rw [flds 4 (by omega)])
    have ro3 : RO Z3 t q (cread bs).2 Q := ⟨r1, r2, by rw [ptr]; exact r3, by rw [ptr]; exact r4, fun k hk => by rw [rows _ (by rcases r1 with e | e <;> omega) (by rcases r1 with e | e <;> omega)]; exact r5 k hk, fun k hk => by rw [rows _ (by rcases r2 with e | e <;> omega) (by rcases r2 with e | e <;> omega)]; exact r6 k hk⟩
    obtain ⟨M', e10, jr⟩ := x10 (L := L) (d := d + 1) (z := Z3) (M := M) (n := n) ro3 to qo hn
    rw [← M3] at e10
    have go : ∀ a, ¬ (50 ≤ a ∧ a ≤ 76 ∧ a % 2 = 0) → (putM Z3 M').1 a = Z3.1 a := fun a ha => gMo ha
    refine ⟨putM Z3 M', ⟨?_, ?_⟩, ?_, t, t2, q, q2, M', a1, a2, by show Z3.2.2.2 1 4 = _; rw [ptr]; exact a3, by show Z3.2.2.2 1 5 = _; rw [ptr]; exact a4, ⟨r1, r2, ro3.2.2.1, ro3.2.2.2.1, fun k hk => ?_, fun k hk => ?_⟩, ?_, ?_, (putM_putM _ _ _).symm, jr, ?_, ?_, ?_⟩
    · rw [putM_f (by omega), flds 136 (by omega)]
    · show Z3.2.2.1 = _
      exact arr
    · rw [N91 _ _ ob1, B91_0, iT (by omega) (by omega), if_neg (by omega), B91_4, iL (by omega) (by omega), if_pos hn, B91_13, J1_6, Option.bind_some, a7, K1_6, Option.bind_some, J1_2, Option.bind_some, x1, Option.bind_some]
      show ((O2 L).2.1 (zrs (zrs (Z.1, zup Z.2.1 1 6 (nI n), Z.2.2) 79 []) 81 []) 1 7 1).bind _ = _
      rw [hZ3, J1_1, Option.bind_some, J1_6, Option.bind_some, f16, e10, Option.bind_some]
    · rw [go _ (by rcases r1 with e | e <;> omega)]
      exact ro3.2.2.2.2.1 k hk
    · rw [go _ (by rcases r2 with e | e <;> omega)]
      exact ro3.2.2.2.2.2 k hk
    · rw [go 2 (by omega), rows 2 (by omega) (by omega)]; exact a6
    · rw [putM_f (by omega)]; exact f16
    · rw [go 79 (by omega)]; exact z79
    · rw [go 81 (by omega)]; exact z81
    · rw [go 86 (by omega), rows 86 (by omega) (by omega)]; exact a12
end
