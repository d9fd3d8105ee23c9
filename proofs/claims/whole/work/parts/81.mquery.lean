/-! THE REFERENCE'S QUERY: joints, the whole reading -/
theorem RM.popO {z : zS} {K A B dT op : List Nat} {y : Nat} {f : Nat → Int32} {J : Nat → Nat → Int32} {Al : Nat → List Nat} (h : RM K A B dT (y :: op) f Al) : ∃ J' Al', FrM [64] [184] f J Al (va_up f 64 (nI op.length)) J' Al' ∧ ms z (va_up f 64 (nI op.length)) J Al = ms z (va_up f 64 (nI op.length)) J' Al' ∧ RM K A B dT op (va_up f 64 (nI op.length)) Al' := by
  obtain ⟨h1, h2, h3, h4, h5, h6, h7, h8⟩ := h
  obtain ⟨J1, j1, e1⟩ := ms_trunc (z := z) (f := va_up f 64 (nI op.length)) (A := J) (Al := Al) 184 op.length
  refine ⟨J1, _, ?_, j1, ?_⟩
  · exact ((FrM.f (by simp)).trans (FrM.j e1)).trans (FrM.a (by simp))
  · have t8 : (Al 184).take op.length = op.reverse := by
      rw [h8, List.reverse_cons, List.take_append_of_le_length (by simp)]
      rw [show op.length = op.reverse.length by simp, List.take_length]
    refine ⟨?_, ?_, ?_, ?_, ?_, ?_, ?_, ?_⟩
    · rw [vn _ _ (by omega), h1]
    · rw [vn _ _ (by omega), h2]
    · rw [vs]
    · rw [vn _ _ (by omega), h4]
    · rw [vn _ _ (by omega), h5]
    · rw [vn _ _ (by omega), h6]
    · rw [vn _ _ (by omega), h7]
    · rw [vs, t8]
theorem jn_and (os cs : List Sem) (x : Sem) : jn os (cs ++ [x]) = 2 :: jn os [] := by
  unfold jn
  rw [if_neg (by simp), if_pos rfl]; rfl
theorem js_and (os cs : List Sem) (x : Sem) : js os (cs ++ [x]) = anS (cs ++ [x]) :: js os [] := by
  unfold js
  rw [if_neg (by simp), if_pos rfl]; rfl
theorem jn_or (os : List Sem) (x : Sem) : jn (os ++ [x]) [] = [3] := by
  unfold jn
  rw [if_pos rfl, if_neg (by simp)]; rfl
theorem js_or (os : List Sem) (x : Sem) : js (os ++ [x]) [] = [orS (os ++ [x])] := by
  unfold js
  rw [if_pos rfl, if_neg (by simp)]; rfl
section
variable {L d : Nat} {z : zS} {bs : List Nat}
theorem m132 (hb : BB bs) {Q : CT} {fr : FR} {D : DD} {f : Nat → Int32} {J : Nat → Nat → Int32} {Al : Nat → List Nat} {c : Nat} (w : WfQ (bs.map lo) Q fr) (hV : MV bs Q fr D f Al) (h13 : Q.2 13 = 0) (hc : (bs.map lo)[Q.2 10]? = some c) :
    ∃ f' J' Al', FrM FQ AQ f J Al f' J' Al' ∧ zden L (d + 6) 132 [.ref 136] (ms z f J Al) = some (0, ms z f' J' Al') ∧ ((qJoint Q fr c).1 = true → MV bs (qJoint Q fr c).2.1 (qJoint Q fr c).2.2 (dStep Q fr D c) f' Al') ∧ ((qJoint Q fr c).1 = false → f' 68 = nI ((qJoint Q fr c).2.1.2 10)) := by
  have hb2 := hb.2
  obtain ⟨ok, a5, a6, a4, a1, a8, a9, ch, a11, a12, a12', a13, a13', b7, b7'⟩ := w
  obtain ⟨hR, h51, h175, h176, h177, h69, hD, hN, K, A, B, dT, hT0, hT1⟩ := hV
  obtain ⟨os, cs, x, D', rfl, hM, hRM, hB⟩ := hT0 h13
  obtain ⟨j, i, fr1, rfl, k1, k2, k3, k4, k5, k6⟩ := dn_par ch (a13' h13)
  rw [wOps_par] at hRM hB
  rw [wSem_par] at hM
  have hD : D'.length = fr1.length := by simpa using hD
  have hx : Nrm x := hN (os, cs ++ [x]) (by simp) x (Or.inr (by simp))
  have o2 := ok.2.1
  rw [List.length_map] at o2
  have qJ : qJoint Q ((j + 1, i) :: fr1) c = if c = 41 then (if fr1.length = 0 then (false, Q, (j + 1, i) :: fr1) else (true, qEnd (Q.1, va_up (va_up (va_up Q.2 11 (hd fr1)) 12 (Q.2 12 - 1)) 10 (Q.2 10 + 1)) fr1, dn fr1)) else if c = 124 then (true, ((qNode Q 1 j BAD32).1, va_up (va_up (va_up Q.2 11 (Q.1 7).length) 13 1) 10 (Q.2 10 + 1)), (j + 1, (Q.1 7).length) :: fr1) else if c = 38 then (true, (Q.1, va_up (va_up Q.2 13 1) 10 (Q.2 10 + 1)), (j + 1, i) :: fr1) else (false, Q, (j + 1, i) :: fr1) := rfl
  have dE : dStep Q ((j + 1, i) :: fr1) ((os, cs ++ [x]) :: D') c = if c = 41 then attD fr1 D' (orS (os ++ [anS (cs ++ [x])])) else if c = 124 then (os ++ [anS (cs ++ [x])], []) :: D' else (os, cs ++ [x]) :: D' := by
    unfold dStep
    rw [if_pos h13]
  have e134 : ∀ x1 : Int32, xruns (O2 L) (zden L (d + 5)) 132 134 [.ref 136, .int x1] [] (ms z f J Al) = some (0, ms z (va_up f 68 (nI (Q.2 10))) J Al) := by
    intro x1
    rw [B132_134, M67r, Option.bind_some, hR.2.2.1, M68p, Option.bind_some, B132_142]
  -- a joint is pushed
  have push : ∀ (K A B dT R : List Nat) (f : Nat → Int32) (J : Nat → Nat → Int32) (Al : Nat → List Nat) (x1 : Int32) (y : Nat), RQ bs Q f Al → RM K A B dT R f Al → R.length < 190 → ∃ f' Al', FrM FQ AQ f J Al f' J Al' ∧ xruns (O2 L) (zden L (d + 5)) 132 51 [.ref 136, .int x1] [.int (nI y), .int (nI R.length), .ref 184] (ms z f J Al) = some (0, ms z f' J Al') ∧ RQ bs (qAt Q (Q.2 10 + 1)) f' Al' ∧ RM K A B dT (y :: R) f' Al' ∧ f' 69 = nI 1 ∧ f' 51 = f 51 ∧ Al' 175 = Al 175 ∧ Al' 176 = Al 176 ∧ Al' 177 = Al 177 := by
    intro K A B dT R f J Al x1 y hR hRM hl
    obtain ⟨h1, h2, h3, h4, h5, h6, h7, h8⟩ := hRM
    refine ⟨va_up (va_up (va_up f 64 (nI (R.length + 1))) 69 (nI 1)) 67 (nI (Q.2 10 + 1)), va_up Al 184 (R.reverse ++ [y]), ?_, ?_, ?_, ?_, ?_, ?_, ?_, ?_, ?_⟩
    · exact (((FrM.f (by simp)).trans (FrM.f (by simp))).trans (FrM.f (by simp))).trans (FrM.a (by simp))
    · rw [B132_51, A184 _ (by rw [h8, List.length_reverse]) (by omega), Option.bind_some, M64r, Option.bind_some, h3, nI_add, M64p, Option.bind_some, if_pos (Or.inr rfl), M69p, Option.bind_some, M67r, Option.bind_some, vn _ _ (by omega), vn _ _ (by omega), hR.2.2.1, nI_add, M67p, Option.bind_some, B132_142, h8]
    · exact (hR.fr (J := J) (J' := J) (((FrM.f (k := 64) (x := nI (R.length + 1)) (by simp)).trans (FrM.f (k := 69) (x := nI 1) (by simp))).trans (FrM.a (by simp)))).at _
    · refine ⟨?_, ?_, ?_, ?_, ?_, ?_, ?_, ?_⟩
      · simp (disch := omega) only [vn]; exact h1
      · simp (disch := omega) only [vn]; exact h2
      · simp (disch := omega) only [vn, vs]; rfl
      · rw [vn _ _ (by omega), h4]
      · rw [vn _ _ (by omega), h5]
      · rw [vn _ _ (by omega), h6]
      · rw [vn _ _ (by omega), h7]
      · rw [vs, List.reverse_cons]
    · simp (disch := omega) only [vn, vs]
    · simp (disch := omega) only [vn]
    · rw [vn _ _ (by omega)]
    · rw [vn _ _ (by omega)]
    · rw [vn _ _ (by omega)]
  have pk : zden L (d + 5) 123 [.ref 136] (ms z f J Al) = some (oz bs[Q.2 10]?, ms z f J Al) := m123 hR.1 hR.2.1 hR.2.2.1 hb o2
  have lT : K.length + (jn os cs ++ wR fr1 D').length ≤ 190 := by omega
  by_cases c38 : c = 38
  · subst c38
    have hc' : bs[Q.2 10]? = some 38 := (qat rfl rfl).mp hc
    rw [qJ, if_neg (by omega), if_neg (by omega), if_pos rfl, dE, if_neg (by omega), if_neg (by omega)]
    obtain ⟨f1, J1, Al1, K1, A1, B1, dT1, fr1', e1, M1, R1, c1⟩ := m127a (L := L) (d := d + 3) (z := z) (J := J) hx hM hRM lT
    obtain ⟨f2, Al2, fr2, e2, q2, R2, g69, g51, g175, g176, g177⟩ := push K1 A1 B1 dT1 _ f1 J1 Al1 (nI 38) 2 (hR.fr (fr1'.mono (by simp) (by simp))) R1 (by omega)
    refine ⟨f2, J1, Al2, (fr1'.mono (by simp) (by simp)).trans fr2, ?_, fun _ => ?_, fun q => by cases q⟩
    · rw [N132 _ ob136, B132_0, pk, Option.bind_some, iZ hb (by omega), if_pos hc', hc', B132_17]
      show (if nI 38 = nI 38 then _ else _) = _
      rw [if_pos rfl, B132_24]
      show xruns (O2 L) (zden L (d + 5)) 132 29 [.ref 136, .int (nI 38)] [.int (nI 2), .ref 136] (ms z f J Al) = _
      rw [B132_29, e1, Option.bind_some, J136_63, Option.bind_some, M64r, Option.bind_some, R1.2.2.1, if_pos rfl, B132_46]
      exact e2
    · obtain ⟨q1, q2', q3, q4, q5, q6, q7, q8⟩ := q2
      refine ⟨⟨q1, q2', q3, q4, q5, q6, q7, q8⟩, ?_, ?_, ?_, ?_, ?_, ?_, hN, K1, A1, B1, dT1, fun q => absurd (show (1 : Nat) = 0 from q) (by omega), fun _ => ⟨?_, ?_, ?_⟩⟩
      · rw [g51, fr1'.2.1 51 (by simp), h51]
      · rw [g175, fr1'.2.2 175 (by simp), h175]
      · rw [g176, fr1'.2.2 176 (by simp), h176]
      · rw [g177, fr1'.2.2 177 (by simp), h177]
      · rw [g69]; rfl
      · simpa using hD
      · rw [wSem_par, js_and]; exact M1
      · rw [wOps_par, jn_and]; exact R2
      · rw [wOps_par, jn_and, List.cons_append, List.length_cons]
        show K1.length + ((jn os [] ++ wR fr1 D').length + 1) ≤ 10 * (Q.1 4).length + Q.2 12
        omega
  · by_cases c124 : c = 124
    · subst c124
      have hc' : bs[Q.2 10]? = some 124 := (qat rfl rfl).mp hc
      rw [qJ, if_neg (by omega), if_pos rfl, dE, if_neg (by omega), if_pos rfl]
      obtain ⟨f1, J1, Al1, K1, A1, B1, dT1, fr1', e1, M1, R1, c1⟩ := m127o (L := L) (d := d + 3) (z := z) (J := J) hx hM hRM lT
      obtain ⟨f2, Al2, fr2, e2, q2, R2, g69, g51, g175, g176, g177⟩ := push K1 A1 B1 dT1 _ f1 J1 Al1 (nI 124) 3 (hR.fr (fr1'.mono (by simp) (by simp))) R1 (by omega)
      refine ⟨f2, J1, Al2, (fr1'.mono (by simp) (by simp)).trans fr2, ?_, fun _ => ?_, fun q => by cases q⟩
      · rw [N132 _ ob136, B132_0, pk, Option.bind_some, iZ hb (by omega), if_neg (by rw [hc']; simp), hc', B132_11]
        show (if nI 124 = nI 124 then _ else _) = _
        rw [if_pos rfl, B132_17]
        show (if nI 124 = nI 38 then _ else _) = _
        rw [if_neg (by decide), B132_28]
        show xruns (O2 L) (zden L (d + 5)) 132 29 [.ref 136, .int (nI 124)] [.int (nI 3), .ref 136] (ms z f J Al) = _
        rw [B132_29, e1, Option.bind_some, J136_63, Option.bind_some, M64r, Option.bind_some, R1.2.2.1, if_neg (by decide), B132_50]
        exact e2
      · obtain ⟨q1, q2', q3, q4, q5, q6, q7, q8⟩ := q2
        refine ⟨⟨q1, q2', q3, q4, q5, q6, q7, q8⟩, ?_, ?_, ?_, ?_, ?_, ?_, ?_, K1, A1, B1, dT1, fun q => absurd (show (1 : Nat) = 0 from q) (by omega), fun _ => ⟨?_, ?_, ?_⟩⟩
        · rw [g51, fr1'.2.1 51 (by simp), h51]; rfl
        · rw [g175, fr1'.2.2 175 (by simp), h175]; rfl
        · rw [g176, fr1'.2.2 176 (by simp), h176]; rfl
        · rw [g177, fr1'.2.2 177 (by simp), h177]; rfl
        · rw [g69]; rfl
        · simpa using hD
        · intro p hp s hs
          rcases List.mem_cons.mp hp with e | e
          · rw [e] at hs
            rcases hs with hs | hs
            · rcases List.mem_append.mp hs with hs | hs
              · exact hN (os, cs ++ [x]) (by simp) s (Or.inl hs)
              · rw [List.mem_singleton.mp hs]; exact Nrm.a _
            · cases hs
          · exact hN p (List.mem_cons_of_mem _ e) s hs
        · rw [wSem_par, js_or]; exact M1
        · rw [wOps_par, jn_or]; exact R2
        · rw [wOps_par, jn_or, List.cons_append, List.nil_append, List.length_cons]
          show K1.length + ((wR fr1 D').length + 1) ≤ 10 * (Q.1 4).length + Q.2 12
          omega
    · have n38 : ¬ bs[Q.2 10]? = some 38 := fun q => by
        have := (qat (bs := bs) (k := 38) rfl rfl).mpr q
        rw [hc] at this; cases this; exact c38 rfl
      have n124 : ¬ bs[Q.2 10]? = some 124 := fun q => by
        have := (qat (bs := bs) (k := 124) rfl rfl).mpr q
        rw [hc] at this; cases this; exact c124 rfl
      have to80 : zden L (d + 6) 132 [.ref 136] (ms z f J Al) = if bs[Q.2 10]? = some 41 then xruns (O2 L) (zden L (d + 5)) 132 86 [.ref 136, .int (oz bs[Q.2 10]?)] [] (ms z f J Al) else xruns (O2 L) (zden L (d + 5)) 132 134 [.ref 136, .int (oz bs[Q.2 10]?)] [] (ms z f J Al) := by
        rw [N132 _ ob136, B132_0, pk, Option.bind_some, iZ hb (by omega), if_neg n38, B132_11, iZ hb (by omega), if_neg n124, B132_80, iZ hb (by omega)]
      rw [to80]
      by_cases c41 : c = 41
      · subst c41
        have hc' : bs[Q.2 10]? = some 41 := (qat rfl rfl).mp hc
        rw [if_pos hc', qJ, if_pos rfl, dE, if_pos rfl]
        obtain ⟨f1, J1, Al1, K1, A1, B1, dT1, fr1', e1, M1, R1, c1⟩ := m127o (L := L) (d := d + 3) (z := z) (J := J) hx hM hRM lT
        have q1 : RQ bs Q f1 Al1 := hR.fr (fr1'.mono (by simp) (by simp))
        have e86 : xruns (O2 L) (zden L (d + 5)) 132 86 [.ref 136, .int (oz bs[Q.2 10]?)] [] (ms z f J Al) = if (wR fr1 D').length = 0 then xruns (O2 L) (zden L (d + 5)) 132 98 [.ref 136, .int (oz bs[Q.2 10]?)] [] (ms z f1 J1 Al1) else xruns (O2 L) (zden L (d + 5)) 132 107 [.ref 136, .int (oz bs[Q.2 10]?)] [] (ms z f1 J1 Al1) := by
          rw [B132_86, e1, Option.bind_some, M64r, Option.bind_some, R1.2.2.1, iE (by omega) (by omega)]
        by_cases f0 : fr1.length = 0
        · have fz : fr1 = [] := List.eq_nil_of_length_eq_zero f0
          rw [if_pos f0]
          refine ⟨va_up f1 68 (nI (Q.2 10)), J1, Al1, (fr1'.mono (by simp) (by simp)).trans (FrM.f (by simp)), ?_, (fun q => by cases q), fun _ => vs _ _ _⟩
          rw [e86, if_pos (by rw [fz]; rfl), B132_98, M67r, Option.bind_some, q1.2.2.1, M68p, Option.bind_some]
        · rw [if_neg f0]
          obtain ⟨p1, p2, p3⟩ := k6 f0
          have wRe : wR fr1 D' = 4 :: wOps fr1 D' := by
            cases fr1 with
            | nil => exact absurd rfl f0
            | cons v fr2 => rfl
          have wRl : (wR fr1 D').length = (wOps fr1 D').length + 1 := by rw [wRe, List.length_cons]
          rw [wRe] at R1
          rw [wRe] at e86
          obtain ⟨J2, Al2, fr2, e2, R2⟩ := RM.popO (z := z) (J := J1) R1
          have R3 : RM K1 A1 B1 dT1 (wOps fr1 D') (va_up (va_up f1 64 (nI (wOps fr1 D').length)) 67 (nI (Q.2 10 + 1))) Al2 := R2.fr (J := J2) (J' := J2) (FrM.f (by simp))
          obtain ⟨u1, dT1', rfl⟩ := MT.one M1
          obtain ⟨f4, J4, Al4, K4, A4, B4, u4, fr4, e4, M4, R4, c4⟩ := m126 (L := L) (d := d + 3) (z := z) (J := J2) hD M1 R3 (by omega)
          have frA : FrM FQ AQ f J Al f4 J4 Al4 := (((fr1'.mono (by simp) (by simp)).trans (fr2.mono (by simp) (by simp))).trans (FrM.f (k := 67) (x := nI (Q.2 10 + 1)) (by simp))).trans (fr4.mono (by simp) (by simp))
          have frB : FrM [59, 64, 66, 67] [181, 182, 183, 184, 185] f J Al f4 J4 Al4 := (((fr1'.mono (by simp) (by simp)).trans (fr2.mono (by simp) (by simp))).trans (FrM.f (k := 67) (x := nI (Q.2 10 + 1)) (by simp))).trans (fr4.mono (by simp) (by simp))
          refine ⟨f4, J4, Al4, frA, ?_, fun _ => ?_, fun q => by cases q⟩
          · rw [e86, if_neg (by rw [List.length_cons]; omega), B132_107, M64r, Option.bind_some, R1.2.2.1, List.length_cons, pk_sub (by omega), Nat.add_sub_cancel, M64p, Option.bind_some, M67r, Option.bind_some, vn _ _ (by omega), q1.2.2.1, nI_add, M67p, Option.bind_some]
            have : ms z (va_up (va_up f1 64 (nI (wOps fr1 D').length)) 67 (nI (Q.2 10 + 1))) J1 Al1 = ms z (va_up (va_up f1 64 (nI (wOps fr1 D').length)) 67 (nI (Q.2 10 + 1))) J2 Al2 := by
              have h := e2
              unfold ms at h ⊢
              simp only [Prod.mk.injEq] at h ⊢
              exact ⟨trivial, trivial, h.2.2.1, trivial⟩
            rw [this, e4, Option.bind_some, B132_142]
          · obtain ⟨j', i', fr1'', os', cs', D'', g1, g2, g3, g4⟩ := dnD_ok p3 hD
            rw [attD_eq g2]
            have N0 : Nrm (orS (os ++ [anS (cs ++ [x])])) := by
              refine Nrm.o (fun s hs => ?_)
              rcases List.mem_append.mp hs with hs | hs
              · exact hN (os, cs ++ [x]) (by simp) s (Or.inl hs)
              · rw [List.mem_singleton.mp hs]; exact Nrm.a _
            have q2 : RQ bs (qAt Q (Q.2 10 + 1)) (va_up (va_up f1 64 (nI (wOps fr1 D').length)) 67 (nI (Q.2 10 + 1))) Al2 := (q1.fr (J := J1) (J' := J2) (fr2.mono (by simp) (by simp))).at _
            have q3 := q2.fr (J := J2) (J' := J4) (fr4.mono (by simp) (by simp))
            refine ⟨?_, ?_, ?_, ?_, ?_, ?_, ?_, ?_, ?_⟩
            · obtain ⟨y1, y2, y3, y4, y5, y6, y7, y8⟩ := q3
              exact ⟨y1, y2, y3, y4, y5, y6, y7, y8⟩
            · rw [frB.2.1 51 (by simp), h51]; rfl
            · rw [frB.2.2 175 (by simp), h175]; rfl
            · rw [frB.2.2 176 (by simp), h176]; rfl
            · rw [frB.2.2 177 (by simp), h177]; rfl
            · rw [frB.2.1 69 (by simp), h69, h13]; rfl
            · show ((os', cs' ++ [ntN fr1 (orS (os ++ [anS (cs ++ [x])]))]) :: D'').length = (dn fr1).length
              rw [g1, List.length_cons, List.length_cons, g3]
            · intro p hp s hs
              have g4 := g4 (fun p hp => hN p (List.mem_cons_of_mem _ hp))
              rcases List.mem_cons.mp hp with e | e
              · rw [e] at hs
                rcases hs with hs | hs
                · exact g4 (os', cs') (by simp) s (Or.inl hs)
                · rcases List.mem_append.mp hs with hs | hs
                  · exact g4 (os', cs') (by simp) s (Or.inr hs)
                  · rw [List.mem_singleton.mp hs]
                    exact N0.n fr1
              · exact g4 p (List.mem_cons_of_mem _ e) s hs
            · refine ⟨K4, A4, B4, u4 :: dT1', fun _ => ⟨os', cs', ntN fr1 (orS (os ++ [anS (cs ++ [x])])), D'', rfl, ?_, ?_, ?_⟩, fun q => absurd (show (0 : Nat) = 0 from rfl) q⟩
              · rw [← g2]
                show MT (Q.1 4).length K4 A4 B4 (u4 :: dT1') (_ :: wSem (dn fr1) (dnD fr1 D'))
                rw [wSem_dn hD]; exact M4
              · rw [← g2]; exact R4
              · rw [← g2]
                show K4.length + (wOps (dn fr1) (dnD fr1 D')).length + 1 ≤ 10 * (Q.1 4).length
                omega
      · have n41 : ¬ bs[Q.2 10]? = some 41 := fun q => by
          have := (qat (bs := bs) (k := 41) rfl rfl).mpr q
          rw [hc] at this; cases this; exact c41 rfl
        rw [if_neg n41, e134, qJ, if_neg c41, if_neg c124, if_neg c38]
        exact ⟨_, _, _, FrM.f (by simp), rfl, (fun q => by cases q), fun _ => vs _ _ _⟩
end
