/-! THE REFERENCE'S QUERY: phrases -/
/-- the head of the reference's loop over a phrase's terms -/
def mPh (qb : List Nat) (r n : Nat) (Q : CT) : Bool × CT := if n = 0 ∨ qb[Q.2 10]? = some 32 ∨ qb[Q.2 10]? = some 34 then qPh qb r n Q else (false, Q)
theorem qPh_s (qb : List Nat) (r n : Nat) (Q : CT) : qPh qb (r + 1) n Q = if qb[(qSkip qb Q).2 10]? = some 34 ∧ 0 < n then (true, qAt (qSkip qb Q) ((qSkip qb Q).2 10 + 1)) else if n = 6 then (false, qSkip qb Q) else if (qTerm qb (qSkip qb Q)).1 = true then mPh qb r (n + 1) (qTerm qb (qSkip qb Q)).2 else (false, (qTerm qb (qSkip qb Q)).2) := by
  rw [qPh]
  unfold mPh
  simp only [Nat.add_one_ne_zero, false_or]
theorem wrun_wd {qb : List Nat} {p : Nat} : qb[p]?.any isWd = decide (1 ≤ wrun qb p) := by
  by_cases h : 1 ≤ wrun qb p
  · rw [decide_eq_true h]
    exact wrun_lt (i := 0) (by omega)
  · rw [decide_eq_false h]
    have := wrun_end qb p
    rwa [show wrun qb p = 0 by omega] at this
section
variable {L d : Nat} {z : zS} {A : Nat → Nat → Int32} {bs : List Nat}
theorem m130_loop (hb : BB bs) {base : Nat} : ∀ (r n : Nat) (Q : CT) (f : Nat → Int32) (Al : Nat → List Nat) (v3 : Value), n + r = 7 → n ≤ 6 → RQ bs Q f Al → qOk (bs.map lo) Q → (Q.1 1).length = base + n → base + 6 ≤ 72 →
    ∃ f' Al', FrM [55, 67, 68] [178, 179, 180] f A Al f' A Al' ∧
      ((mPh (bs.map lo) r n Q).1 = true → ∃ (Q1 : CT) (n' : Nat) (y : Int32) (v : Value), (Q1.1 1).length = base + n' ∧ n' ≤ 6 ∧ (mPh (bs.map lo) r n Q).2 = qAt Q1 (Q1.2 10 + 1) ∧ Q1.2 10 < bs.length ∧ RQ bs Q1 f' Al' ∧ xruns (O2 L) (zden L (d + 4)) 130 14 [.ref 136, .int (nI n), .int (nI (if n = 0 then 1 else 0)), v3] [] (ms z f A Al) = xruns (O2 L) (zden L (d + 4)) 130 113 [.ref 136, .int (nI n'), .int y, v] [] (ms z f' A Al')) ∧
      ((mPh (bs.map lo) r n Q).1 = false → xruns (O2 L) (zden L (d + 4)) 130 14 [.ref 136, .int (nI n), .int (nI (if n = 0 then 1 else 0)), v3] [] (ms z f A Al) = some (0, ms z f' A Al') ∧ f' 68 = nI ((mPh (bs.map lo) r n Q).2.2 10)) := by
  have hb2 := hb.2
  intro r
  induction r with
  | zero => intro n Q f Al v3 hn hn6; omega
  | succ r ih =>
    intro n Q f Al v3 hn hn6 hR ok hl hB
    have o2 := ok.2.1
    rw [List.length_map] at o2
    obtain ⟨k1, k2⟩ := m124q (L := L) (d := d + 2) (z := z) (A := A) hR hb o2
    have okS := qSkip_ok ok
    have oS2 := okS.2.1
    rw [List.length_map] at oS2
    have atE : (qSkip (bs.map lo) Q).2 10 = Q.2 10 + brun (bs.map lo) (Q.2 10) := qAt_10 _ _
    have lS : ((qSkip (bs.map lo) Q).1 1).length = (Q.1 1).length := rfl
    have h8 := hR.2.2.2.2.2.2.2
    have h3 := hR.2.2.1
    have g8 := k2.2.2.2.2.2.2.2
    have g3 := k2.2.2.1
    have frS : FrM [55, 67, 68] [178, 179, 180] f A Al (va_up f 67 (nI ((qSkip (bs.map lo) Q).2 10))) A Al := FrM.f (by simp)
    have neg1 : ¬ (nI 0 ≤ (-1 : Int32)) := by decide
    have neg2 : (-1 : Int32) < nI 0 := by decide
    -- to 47
    have e47 : ∃ fr, (fr = 1 ↔ n = 0 ∨ Q.2 10 < (qSkip (bs.map lo) Q).2 10) ∧ fr ≤ 1 ∧ xruns (O2 L) (zden L (d + 4)) 130 14 [.ref 136, .int (nI n), .int (nI (if n = 0 then 1 else 0)), v3] [] (ms z f A Al) = xruns (O2 L) (zden L (d + 4)) 130 47 [.ref 136, .int (nI n), .int (nI (if n = 0 then 1 else 0)), .int (nI (Q.2 10))] [.int (nI fr)] (ms z (va_up f 67 (nI ((qSkip (bs.map lo) Q).2 10))) A Al) := by
      rw [B130_14, M68r, Option.bind_some, h8, if_neg neg1, B130_21, M67r, Option.bind_some, h3, k1, Option.bind_some]
      by_cases e : n = 0
      · refine ⟨1, ⟨fun _ => Or.inl e, fun _ => rfl⟩, Nat.le_refl _, ?_⟩
        rw [if_pos e, if_neg (by decide), B130_42]
      · rw [if_neg e, if_pos rfl, B130_34, M67r, Option.bind_some, g3, iL (by omega) (by omega)]
        by_cases e2 : (qSkip (bs.map lo) Q).2 10 ≤ Q.2 10
        · refine ⟨0, ⟨fun q => by omega, fun q => by omega⟩, by omega, ?_⟩
          rw [if_pos e2, B130_46]
        · refine ⟨1, ⟨fun _ => Or.inr (by omega), fun _ => rfl⟩, Nat.le_refl _, ?_⟩
          rw [if_neg e2, B130_42]
    obtain ⟨fr, hfr, hfr1, e47⟩ := e47
    have e84 : ∀ x2 : Int32, xruns (O2 L) (zden L (d + 4)) 130 84 [.ref 136, .int (nI n), .int x2, .int (nI (Q.2 10))] [] (ms z (va_up f 67 (nI ((qSkip (bs.map lo) Q).2 10))) A Al) = some (0, ms z (va_up (va_up f 67 (nI ((qSkip (bs.map lo) Q).2 10))) 68 (nI ((qSkip (bs.map lo) Q).2 10))) A Al) := by
      intro x2
      rw [B130_84, M67r, Option.bind_some, g3, M68p, Option.bind_some]
    have frE : FrM [55, 67, 68] [178, 179, 180] f A Al (va_up (va_up f 67 (nI ((qSkip (bs.map lo) Q).2 10))) 68 (nI ((qSkip (bs.map lo) Q).2 10))) A Al := frS.trans (FrM.f (by simp))
    -- at 64
    have e64 : xruns (O2 L) (zden L (d + 4)) 130 64 [.ref 136, .int (nI n), .int (nI fr), .int (nI (Q.2 10))] [] (ms z (va_up f 67 (nI ((qSkip (bs.map lo) Q).2 10))) A Al) = if 1 ≤ wrun (bs.map lo) ((qSkip (bs.map lo) Q).2 10) ∧ fr = 1 ∧ n ≠ 6 then xruns (O2 L) (zden L (d + 4)) 130 93 [.ref 136, .int (nI n), .int (nI fr), .int (nI (Q.2 10))] [] (ms z (va_up f 67 (nI ((qSkip (bs.map lo) Q).2 10))) A Al) else some (0, ms z (va_up (va_up f 67 (nI ((qSkip (bs.map lo) Q).2 10))) 68 (nI ((qSkip (bs.map lo) Q).2 10))) A Al) := by
      rw [B130_64, m123 k2.1 k2.2.1 g3 hb oS2, Option.bind_some, m112 (fun k => hb.at), Option.bind_some, iB, ← qwd, wrun_wd]
      by_cases q1 : 1 ≤ wrun (bs.map lo) ((qSkip (bs.map lo) Q).2 10)
      · rw [if_pos (decide_eq_true q1), B130_74, iE (by omega) (by omega)]
        by_cases q2 : fr = 0
        · rw [if_pos q2, e84, if_neg (fun q => by omega)]
        · rw [if_neg q2, B130_78, iE (by omega) (by omega)]
          by_cases q3 : n = 6
          · rw [if_pos q3, e84, if_neg (fun q => q.2.2 q3)]
          · rw [if_neg q3, if_pos ⟨q1, by omega, q3⟩]
      · rw [if_neg (by rw [decide_eq_false q1]; decide), e84, if_neg (fun q => q1 q.1)]
    have pk : zden L (d + 4) 123 [.ref 136] (ms z (va_up f 67 (nI ((qSkip (bs.map lo) Q).2 10))) A Al) = some (oz bs[(qSkip (bs.map lo) Q).2 10]?, ms z (va_up f 67 (nI ((qSkip (bs.map lo) Q).2 10))) A Al) := m123 k2.1 k2.2.1 g3 hb oS2
    by_cases C : n = 0 ∨ (bs.map lo)[Q.2 10]? = some 32 ∨ (bs.map lo)[Q.2 10]? = some 34
    · have eM : mPh (bs.map lo) (r + 1) n Q = qPh (bs.map lo) (r + 1) n Q := if_pos C
      rw [eM, qPh_s]
      by_cases C1 : (bs.map lo)[(qSkip (bs.map lo) Q).2 10]? = some 34 ∧ 0 < n
      · rw [if_pos C1]
        refine ⟨va_up f 67 (nI ((qSkip (bs.map lo) Q).2 10)), Al, frS, fun _ => ?_, fun q => by cases q⟩
        have C1' := (qat (bs := bs) rfl rfl).mp C1.1
        obtain ⟨lt, _⟩ := List.getElem?_eq_some_iff.mp C1'
        refine ⟨qSkip (bs.map lo) Q, n, nI fr, .int (nI (Q.2 10)), by omega, hn6, rfl, lt, k2, ?_⟩
        rw [e47, B130_47, pk, Option.bind_some, iZ hb (by omega), if_pos C1', B130_57, iL (by omega) (by omega), if_neg (by omega), B130_61, B130_105, M68r, Option.bind_some, g8, if_pos neg2]
      · rw [if_neg C1]
        have e64' : xruns (O2 L) (zden L (d + 4)) 130 14 [.ref 136, .int (nI n), .int (nI (if n = 0 then 1 else 0)), v3] [] (ms z f A Al) = xruns (O2 L) (zden L (d + 4)) 130 64 [.ref 136, .int (nI n), .int (nI fr), .int (nI (Q.2 10))] [] (ms z (va_up f 67 (nI ((qSkip (bs.map lo) Q).2 10))) A Al) := by
          rw [e47, B130_47, pk, Option.bind_some, iZ hb (by omega)]
          by_cases q : bs[(qSkip (bs.map lo) Q).2 10]? = some 34
          · have : n = 0 := by
              have q' := (qat (bs := bs) (k := 34) rfl rfl).mpr q
              by_cases n0 : n = 0
              · exact n0
              · exact absurd ⟨q', by omega⟩ C1
            rw [if_pos q, B130_57, iL (by omega) (by omega), if_pos (by omega)]
          · rw [if_neg q]
        rw [e64', e64]
        by_cases n6 : n = 6
        · rw [if_pos n6, if_neg (fun q => q.2.2 n6)]
          exact ⟨_, _, frE, (fun q => by cases q), fun _ => ⟨rfl, vs _ _ _⟩⟩
        · rw [if_neg n6]
          have f1 : fr = 1 := by
            refine hfr.mpr ?_
            rcases C with C | C | C
            · exact Or.inl C
            · right
              rw [atE, brun_s C]; omega
            · by_cases n0 : n = 0
              · exact Or.inl n0
              · exfalso
                have : qSkip (bs.map lo) Q = Q := qSkip_0 (by rw [C]; exact fun q => by cases q)
                rw [this] at C1
                exact C1 ⟨C, by omega⟩
          by_cases W : 1 ≤ wrun (bs.map lo) ((qSkip (bs.map lo) Q).2 10)
          · rw [if_pos (show 1 ≤ wrun (bs.map lo) ((qSkip (bs.map lo) Q).2 10) ∧ fr = 1 ∧ n ≠ 6 from ⟨W, f1, n6⟩)]
            obtain ⟨f2, Al2, fr2, ex, t1, t2⟩ := m129 (L := L) (d := d) (z := z) (A := A) k2 hb okS W (by omega)
            obtain ⟨u1, u2, u3, u4⟩ := qTerm_ok okS
            rw [B130_93, ex, Option.bind_some, nI_add]
            by_cases T : (qTerm (bs.map lo) (qSkip (bs.map lo) Q)).1 = true
            · rw [if_pos T]
              obtain ⟨f3, Al3, fr3, y1, y2⟩ := ih (n + 1) (qTerm (bs.map lo) (qSkip (bs.map lo) Q)).2 f2 Al2 (.int (nI (Q.2 10))) (by omega) (by omega) (t1 T) u1 (by have := (u4 T).1; omega) hB
              exact ⟨f3, Al3, (frS.trans fr2).trans fr3, y1, y2⟩
            · have T' : (qTerm (bs.map lo) (qSkip (bs.map lo) Q)).1 = false := by simpa using T
              rw [if_neg T]
              refine ⟨f2, Al2, frS.trans fr2, (fun q => by cases q), fun _ => ⟨?_, t2 T'⟩⟩
              have o3 := u1.2.1
              rw [List.length_map] at o3
              show xruns (O2 L) (zden L (d + 4)) 130 14 [.ref 136, .int (nI (n + 1)), .int (nI 0), .int (nI (Q.2 10))] [] (ms z f2 A Al2) = _
              rw [B130_14, M68r, Option.bind_some, t2 T', iL (by omega) (by omega), if_pos (Nat.zero_le _), B130_105, M68r, Option.bind_some, t2 T', iT (by omega) (by omega), if_neg (by omega), B130_112]
          · have eT : qTerm (bs.map lo) (qSkip (bs.map lo) Q) = (false, qSkip (bs.map lo) Q) := by
              unfold qTerm
              rw [if_pos (by omega)]
            rw [eT, if_neg (show ¬ ((false, qSkip (bs.map lo) Q) : Bool × CT).1 = true from Bool.false_ne_true), if_neg (show ¬ (1 ≤ wrun (bs.map lo) ((qSkip (bs.map lo) Q).2 10) ∧ fr = 1 ∧ n ≠ 6) from fun q => W q.1)]
            exact ⟨_, _, frE, (fun q => by cases q), fun _ => ⟨rfl, vs _ _ _⟩⟩
    · have eM : mPh (bs.map lo) (r + 1) n Q = (false, Q) := if_neg C
      have n0 : n ≠ 0 := fun q => C (Or.inl q)
      have c32 : (bs.map lo)[Q.2 10]? ≠ some 32 := fun q => C (Or.inr (Or.inl q))
      have c34 : (bs.map lo)[Q.2 10]? ≠ some 34 := fun q => C (Or.inr (Or.inr q))
      have sk : qSkip (bs.map lo) Q = Q := qSkip_0 c32
      have f0 : fr ≠ 1 := fun q => by
        rcases hfr.mp q with q | q
        · exact n0 q
        · rw [sk] at q; omega
      rw [eM]
      refine ⟨_, _, frE, (fun q => by cases q), fun _ => ⟨?_, by rw [vs, sk]⟩⟩
      rw [e47, B130_47, pk, Option.bind_some, iZ hb (by omega), if_neg (by rw [sk]; exact fun q => c34 ((qat rfl rfl).mpr q)), e64, if_neg (fun q => f0 q.2.1)]
/-- a phrase and its room -/
theorem m130 (hb : BB bs) {Q : CT} {f : Nat → Int32} {Al : Nat → List Nat} {N : Nat} (hR : RQ bs Q f Al) (ok : qOk (bs.map lo) Q) (hp : Q.2 10 < bs.length) (hl : (Q.1 1).length + 6 ≤ 72) (h51 : f 51 = nI N) (hN : N < 12) (l5 l6 : List Nat) (e5 : l5.length = N) (e6 : l6.length = N) (h176 : Al 176 = l5 ++ [1]) (h177 : Al 177 = l6 ++ [0]) :
    ∃ f' Al', FrM [55, 67, 68] [176, 177, 178, 179, 180] f A Al f' A Al' ∧ zden L (d + 5) 130 [.ref 136] (ms z f A Al) = some (0, ms z f' A Al') ∧
      (∀ r, (qPhrase (bs.map lo) Q).1 = true → (qRoom (bs.map lo) (qPhrase (bs.map lo) Q).2).1 = some r → RQ bs (qRoom (bs.map lo) (qPhrase (bs.map lo) Q).2).2 f' Al' ∧ Al' 176 = l5 ++ [((qPhrase (bs.map lo) Q).2.1 1).length - (Q.1 1).length] ∧ Al' 177 = l6 ++ [r]) ∧
      ((qPhrase (bs.map lo) Q).1 = false → f' 68 = nI ((qPhrase (bs.map lo) Q).2.2 10)) ∧
      ((qPhrase (bs.map lo) Q).1 = true → (qRoom (bs.map lo) (qPhrase (bs.map lo) Q).2).1 = none → f' 68 = nI ((qRoom (bs.map lo) (qPhrase (bs.map lo) Q).2).2.2 10)) := by
  have hb2 := hb.2
  have lm : (bs.map lo).length = bs.length := List.length_map _
  have e0 : zden L (d + 5) 130 [.ref 136] (ms z f A Al) = xruns (O2 L) (zden L (d + 4)) 130 14 [.ref 136, .int (nI 0), .int (nI 1), .null] [] (ms z (va_up f 67 (nI (Q.2 10 + 1))) A Al) := by
    rw [N130 _ ob136, B130_0, M67r, Option.bind_some, hR.2.2.1, nI_add, M67p, Option.bind_some]
  obtain ⟨f1, Al1, fr1, y1, y2⟩ := m130_loop (L := L) (d := d) (z := z) (A := A) hb (base := (Q.1 1).length) 7 0 (qAt Q (Q.2 10 + 1)) _ Al .null (by omega) (by omega) (hR.at (Q.2 10 + 1)) (ok.at (by omega)) rfl hl
  have eM : mPh (bs.map lo) 7 0 (qAt Q (Q.2 10 + 1)) = qPhrase (bs.map lo) Q := if_pos (Or.inl rfl)
  rw [eM] at y1 y2
  have fr0 : FrM [55, 67, 68] [176, 177, 178, 179, 180] f A Al f1 A Al1 := (FrM.trans (FrM.f (k := 67) (x := nI (Q.2 10 + 1)) (by simp)) (fr1.mono (by simp) (by simp)))
  by_cases P : (qPhrase (bs.map lo) Q).1 = true
  · obtain ⟨Q1, n', y, v, z1, z2, z3, z4, z5, z6⟩ := y1 P
    have z6 : xruns (O2 L) (zden L (d + 4)) 130 14 [.ref 136, .int (nI 0), .int (nI 1), .null] [] (ms z (va_up f 67 (nI (Q.2 10 + 1))) A Al) = xruns (O2 L) (zden L (d + 4)) 130 113 [.ref 136, .int (nI n'), .int y, v] [] (ms z f1 A Al1) := z6
    have g51 : f1 51 = nI N := by rw [fr0.2.1 51 (by simp), h51]
    have g176 : Al1 176 = l5 ++ [1] := by rw [fr1.2.2 176 (by simp), h176]
    have g177 : Al1 177 = l6 ++ [0] := by rw [fr1.2.2 177 (by simp), h177]
    have nT : ((qPhrase (bs.map lo) Q).2.1 1).length - (Q.1 1).length = n' := by
      rw [z3]
      show (Q1.1 1).length - _ = _
      omega
    rw [nT, z3]
    have z5' := z5.at (Q1.2 10 + 1)
    generalize hQ2 : qAt Q1 (Q1.2 10 + 1) = Q2 at *
    have a2 : Q2.2 10 = Q1.2 10 + 1 := by rw [← hQ2, qAt_10]
    have ls : ∀ x y : Nat, (l5 ++ [x]).set N y = l5 ++ [y] := fun x y => by rw [← e5]; simp
    have ls6 : ∀ x y : Nat, (l6 ++ [x]).set N y = l6 ++ [y] := fun x y => by rw [← e6]; simp
    have R2 : RQ bs Q2 (va_up f1 67 (nI (Q2.2 10))) (va_up Al1 176 (l5 ++ [n'])) := by
      rw [a2]
      obtain ⟨q1, q2, q3, q4, q5, q6, q7, q8⟩ := z5'
      exact ⟨q1, by rw [vn _ _ (by omega), q2], q3, q4, by rw [vn _ _ (by omega), q5], by rw [vn _ _ (by omega), q6], by rw [vn _ _ (by omega), q7], q8⟩
    have fr2 : FrM [55, 67, 68] [176, 177, 178, 179, 180] f A Al (va_up f1 67 (nI (Q2.2 10))) A (va_up Al1 176 (l5 ++ [n'])) := (fr0.trans (FrM.f (by simp))).trans (FrM.a (by simp))
    have b2 : Q2.2 10 ≤ bs.length := by omega
    have e113 : zden L (d + 5) 130 [.ref 136] (ms z f A Al) = if bs[Q2.2 10]? = some 47 then xruns (O2 L) (zden L (d + 4)) 130 142 [.ref 136, .int (nI n'), .int y, v] [] (ms z (va_up f1 67 (nI (Q2.2 10))) A (va_up Al1 176 (l5 ++ [n']))) else xruns (O2 L) (zden L (d + 4)) 130 205 [.ref 136, .int (nI n'), .int y, v] [] (ms z (va_up f1 67 (nI (Q2.2 10))) A (va_up Al1 176 (l5 ++ [n']))) := by
      rw [e0, z6, B130_113, M67r, Option.bind_some, z5.2.2.1, nI_add, M67p, Option.bind_some, J136_53, Option.bind_some, M51r, Option.bind_some, vn _ _ (by omega), g51, U176 n' (by rw [g176, List.length_append, e5]; simp) (by omega), Option.bind_some, g176, ls, ← a2, m123 R2.1 R2.2.1 R2.2.2.1 hb b2, Option.bind_some, iZ hb (by omega)]
    unfold qRoom
    by_cases S : bs[Q2.2 10]? = some 47
    · have S' : (bs.map lo)[Q2.2 10]? = some 47 := (qat rfl rfl).mpr S
      obtain ⟨sl, _⟩ := List.getElem?_eq_some_iff.mp S
      have R3 : RQ bs (qAt Q2 (Q2.2 10 + 1)) (va_up f1 67 (nI (Q2.2 10 + 1))) (va_up Al1 176 (l5 ++ [n'])) := by
        have := R2.at (Q2.2 10 + 1)
        rw [vv] at this
        exact this
      have fr3 : ∀ x, FrM [55, 67, 68] [176, 177, 178, 179, 180] f A Al (va_up f1 67 (nI x)) A (va_up Al1 176 (l5 ++ [n'])) := fun x => (fr0.trans (FrM.f (by simp))).trans (FrM.a (by simp))
      have pk3 : zden L (d + 4) 123 [.ref 136] (ms z (va_up f1 67 (nI (Q2.2 10 + 1))) A (va_up Al1 176 (l5 ++ [n']))) = some (oz bs[Q2.2 10 + 1]?, ms z (va_up f1 67 (nI (Q2.2 10 + 1))) A (va_up Al1 176 (l5 ++ [n']))) := m123 R3.1 R3.2.1 (by rw [vs]) hb (by omega)
      have e142 : zden L (d + 5) 130 [.ref 136] (ms z f A Al) = if bs[Q2.2 10 + 1]?.any isFg = true then xruns (O2 L) (zden L (d + 4)) 130 179 [.ref 136, .int (nI n'), .int y, v] [] (ms z (va_up f1 67 (nI (Q2.2 10 + 1))) A (va_up Al1 176 (l5 ++ [n']))) else some (0, ms z (va_up (va_up f1 67 (nI (Q2.2 10 + 1))) 68 (nI (Q2.2 10 + 1))) A (va_up Al1 176 (l5 ++ [n']))) := by
        have e170 : xruns (O2 L) (zden L (d + 4)) 130 170 [.ref 136, .int (nI n'), .int y, v] [] (ms z (va_up f1 67 (nI (Q2.2 10 + 1))) A (va_up Al1 176 (l5 ++ [n']))) = some (0, ms z (va_up (va_up f1 67 (nI (Q2.2 10 + 1))) 68 (nI (Q2.2 10 + 1))) A (va_up Al1 176 (l5 ++ [n']))) := by
          rw [B130_170, M67r, Option.bind_some, vs, M68p, Option.bind_some]
        rw [e113, if_pos S, B130_142, M67r, Option.bind_some, vs, nI_add, M67p, Option.bind_some, vv, pk3, Option.bind_some]
        cases hc : bs[Q2.2 10 + 1]? with
        | none =>
          rw [if_pos (show oz none < nI 48 from (oz_lt (fun k q => by cases q) (by omega)).mpr (fun k q => by cases q)), e170, if_neg (by decide)]
        | some c =>
          have c256 := hb.at hc
          show (if nI c < nI 48 then _ else _) = _
          rw [iT (by omega) (by omega)]
          by_cases c1 : c < 48
          · have e : isFg c = false := by simp [isFg]; omega
            rw [if_pos c1, e170, if_neg (by show ¬ isFg c = true; rw [e]; decide)]
          · rw [if_neg c1, B130_161, pk3, Option.bind_some, hc]
            show (if nI c ≤ nI 57 then _ else _) = _
            rw [iL (by omega) (by omega)]
            by_cases c2 : c ≤ 57
            · have e : isFg c = true := by simp [isFg]; omega
              rw [if_pos c2, if_pos (show Option.any isFg (some c) = true from e)]
            · have e : isFg c = false := by simp [isFg]; omega
              rw [if_neg c2, e170, if_neg (by show ¬ isFg c = true; rw [e]; decide)]
      rw [if_pos S']
      by_cases F : bs[Q2.2 10 + 1]?.any isFg = true
      · have F' : (bs.map lo)[Q2.2 10 + 1]?.any isFg = true := by rw [qfg]; exact F
        rw [if_pos F']
        cases hc : bs[Q2.2 10 + 1]? with
        | none => rw [hc] at F; cases F
        | some c =>
          rw [hc] at F
          have c256 := hb.at hc
          have cf : isFg c = true := F
          have c48 : 48 ≤ c := by
            unfold isFg at cf
            simp only [Bool.and_eq_true, decide_eq_true_eq] at cf
            exact cf.1
          have lc : lo c = c := by
            have : c ≤ 57 := by
              unfold isFg at cf
              simp only [Bool.and_eq_true, decide_eq_true_eq] at cf
              exact cf.2
            unfold lo isUp
            rw [if_neg (by simp; omega)]
          have gd : (bs.map lo).getD (Q2.2 10 + 1) 0 = c := by
            refine gDo ?_
            rw [List.getElem?_map, hc, Option.map_some, lc]
          obtain ⟨cl, _⟩ := List.getElem?_eq_some_iff.mp hc
          have fr4 : FrM [55, 67, 68] [176, 177, 178, 179, 180] f A Al (va_up f1 67 (nI (Q2.2 10 + 2))) A (va_up (va_up Al1 176 (l5 ++ [n'])) 177 (l6 ++ [c - 48])) := (fr3 _).trans (FrM.a (by simp))
          refine ⟨_, _, fr4, ?_, fun r _ hr => ?_, (fun q => by rw [P] at q; cases q), fun _ q => by cases q⟩
          · rw [e142, hc, if_pos F, B130_179, J136_54, Option.bind_some, M51r, Option.bind_some, vn _ _ (by omega), g51, pk3, Option.bind_some, hc]
            show ((O2 L).2.2.2.2.2.2.1 _ 0 177 (nI N) (nI c - nI 48)).bind _ = _
            rw [pk_sub c48, U177 (c - 48) (by rw [vn _ _ (by omega), g177, List.length_append, e6]; simp) (by omega), Option.bind_some, M67r, Option.bind_some, vs, nI_add, M67p, Option.bind_some, B130_205, vv, vn _ _ (by omega), g177, ls6]
          · simp only [Option.some.injEq] at hr
            rw [gd] at hr
            refine ⟨?_, by rw [vn _ _ (by omega), vs], by rw [vs, hr]⟩
            have := R3.at (Q2.2 10 + 2)
            rw [vv] at this
            obtain ⟨q1, q2, q3, q4, q5, q6, q7, q8⟩ := this
            refine ⟨q1, by rw [vn _ _ (by omega), q2], ?_, q4, by rw [vn _ _ (by omega), q5]; rfl, by rw [vn _ _ (by omega), q6]; rfl, by rw [vn _ _ (by omega), q7]; rfl, q8⟩
            rw [vs, qAt_10]
      · have F' : ¬ (bs.map lo)[Q2.2 10 + 1]?.any isFg = true := by rw [qfg]; exact F
        rw [if_neg F']
        refine ⟨_, _, ((fr3 (Q2.2 10 + 1)).trans (FrM.f (k := 68) (x := nI (Q2.2 10 + 1)) (by simp))), ?_, (fun r _ hr => by cases hr), (fun q => by rw [P] at q; cases q), fun _ _ => by rw [vs, qAt_10]⟩
        rw [e142, if_neg F]
    · have S' : ¬ (bs.map lo)[Q2.2 10]? = some 47 := fun e => S ((qat rfl rfl).mp e)
      rw [if_neg S']
      refine ⟨_, _, fr2, ?_, fun r _ hr => ?_, (fun q => by rw [P] at q; cases q), fun _ q => by cases q⟩
      · rw [e113, if_neg S, B130_205]
      · simp only [Option.some.injEq] at hr
        exact ⟨R2, vs _ _ _, by rw [vn _ _ (by omega), g177, hr]⟩
  · have P' : (qPhrase (bs.map lo) Q).1 = false := by simpa using P
    obtain ⟨q1, q2⟩ := y2 P'
    have q1 : xruns (O2 L) (zden L (d + 4)) 130 14 [.ref 136, .int (nI 0), .int (nI 1), .null] [] (ms z (va_up f 67 (nI (Q.2 10 + 1))) A Al) = some (0, ms z f1 A Al1) := q1
    exact ⟨f1, Al1, fr0, by rw [e0, q1], fun r q => absurd q P, fun _ => q2, fun q => absurd q P⟩
end
