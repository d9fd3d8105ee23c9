/-! THE REFERENCE'S QUERY: one -/
theorem RQ.fr {bs : List Nat} {Q : CT} {f f' : Nat → Int32} {J J' : Nat → Nat → Int32} {Al Al' : Nat → List Nat} (h : RQ bs Q f Al) (r : FrM [51, 59, 64, 66, 69] [175, 176, 177, 181, 182, 183, 184, 185] f J Al f' J' Al') : RQ bs Q f' Al' := by
  obtain ⟨h1, h2, h3, h4, h5, h6, h7, h8⟩ := h
  obtain ⟨r0, r1, r2⟩ := r
  exact ⟨by rw [r1 1 (by simp), h1], by rw [r2 137 (by simp), h2], by rw [r1 67 (by simp), h3], by rw [r1 55 (by simp), h4], by rw [r2 178 (by simp), h5], by rw [r2 179 (by simp), h6], by rw [r2 180 (by simp), h7], by rw [r1 68 (by simp), h8]⟩
theorem RM.fr {K A B dT op : List Nat} {f f' : Nat → Int32} {J J' : Nat → Nat → Int32} {Al Al' : Nat → List Nat} (h : RM K A B dT op f Al) (r : FrM [51, 55, 67, 68, 69] [175, 176, 177, 178, 179, 180] f J Al f' J' Al') : RM K A B dT op f' Al' := by
  obtain ⟨h1, h2, h3, h4, h5, h6, h7, h8⟩ := h
  obtain ⟨r0, r1, r2⟩ := r
  exact ⟨by rw [r1 59 (by simp), h1], by rw [r1 66 (by simp), h2], by rw [r1 64 (by simp), h3], by rw [r2 181 (by simp), h4], by rw [r2 182 (by simp), h5], by rw [r2 183 (by simp), h6], by rw [r2 185 (by simp), h7], by rw [r2 184 (by simp), h8]⟩
def DN (D : DD) : Prop := ∀ p ∈ D, ∀ s, s ∈ p.1 ∨ s ∈ p.2 → Nrm s
def TV (Q : CT) (fr : FR) (D : DD) (f : Nat → Int32) (Al : Nat → List Nat) : Prop := ∃ K A B dT, (Q.2 13 = 0 → ∃ os cs x D', D = (os, cs ++ [x]) :: D' ∧ MT (Q.1 4).length K A B dT (x :: wSem fr ((os, cs) :: D')) ∧ RM K A B dT (wOps fr ((os, cs) :: D')) f Al ∧ K.length + (wOps fr ((os, cs) :: D')).length + 1 ≤ 10 * (Q.1 4).length) ∧ (Q.2 13 ≠ 0 → MT (Q.1 4).length K A B dT (wSem fr D) ∧ RM K A B dT (wOps fr D) f Al ∧ K.length + (wOps fr D).length ≤ 10 * (Q.1 4).length + Q.2 12)
def MV (bs : List Nat) (Q : CT) (fr : FR) (D : DD) (f : Nat → Int32) (Al : Nat → List Nat) : Prop := RQ bs Q f Al ∧ f 51 = nI (Q.1 4).length ∧ Al 175 = Q.1 4 ∧ Al 176 = Q.1 5 ∧ Al 177 = Q.1 6 ∧ f 69 = nI (Q.2 13) ∧ D.length = fr.length ∧ DN D ∧ TV Q fr D f Al
abbrev FQ : List Nat := [51, 55, 59, 64, 66, 67, 68, 69]
abbrev AQ : List Nat := [175, 176, 177, 178, 179, 180, 181, 182, 183, 184, 185]
theorem wSem_dn : ∀ {fr : FR} {D : DD}, D.length = fr.length → wSem (dn fr) (dnD fr D) = wSem fr D := by
  intro fr
  induction fr with
  | nil => intro D _; cases D <;> rfl
  | cons v fr ih =>
    intro D h
    obtain ⟨j, i⟩ := v
    cases D with
    | nil => cases h
    | cons p D =>
      cases j with
      | zero => exact ih (by simpa using h)
      | succ j => rfl
theorem dnD_ok {K P : List Nat} : ∀ {fr : FR} {D : DD}, chOk K P fr → D.length = fr.length → ∃ j i fr1 os cs D', dn fr = (j + 1, i) :: fr1 ∧ dnD fr D = (os, cs) :: D' ∧ D'.length = fr1.length ∧ (DN D → DN ((os, cs) :: D')) := by
  intro fr
  induction fr with
  | nil => intro D h; exact absurd h id
  | cons v fr ih =>
    intro D h hD
    obtain ⟨j, i⟩ := v
    cases D with
    | nil => cases hD
    | cons p D =>
      obtain ⟨os, cs⟩ := p
      have hD2 : D.length = fr.length := by simpa using hD
      cases j with
      | zero =>
        obtain ⟨j', i', fr1, os', cs', D', e1, e2, e3, e4⟩ := ih h.2.2.2 hD2
        exact ⟨j', i', fr1, os', cs', D', e1, e2, e3, fun q => e4 (fun p hp => q p (List.mem_cons_of_mem _ hp))⟩
      | succ j => exact ⟨j, i, fr, os, cs, D, rfl, rfl, hD2, fun q => q⟩
theorem attD_eq {fr : FR} {D D' : DD} {os cs : List Sem} {s : Sem} (h : dnD fr D = (os, cs) :: D') : attD fr D s = (os, cs ++ [ntN fr s]) :: D' := by
  unfold attD
  rw [h]
section
variable {L d : Nat} {z : zS} {bs : List Nat}
/-- a leaf is read -/
theorem m131_leaf (hb : BB bs) {Q : CT} {f : Nat → Int32} {J : Nat → Nat → Int32} {Al : Nat → List Nat} {c : Nat} (hR : RQ bs Q f Al) (ok : qOk (bs.map lo) Q) (a5 : (Q.1 5).length = (Q.1 4).length) (a6 : (Q.1 6).length = (Q.1 4).length) (a4 : (Q.1 4).length < 12) (a1 : (Q.1 1).length ≤ 6 * (Q.1 4).length) (h51 : f 51 = nI (Q.1 4).length) (h175 : Al 175 = Q.1 4) (h176 : Al 176 = Q.1 5) (h177 : Al 177 = Q.1 6) (hc : bs[Q.2 10]? = some c) (hw : c = 34 ∨ isWd c = true) :
    ∃ f2 Al2, FrM [55, 67, 68] [175, 176, 177, 178, 179, 180] f J Al f2 J Al2 ∧ xruns (O2 L) (zden L (d + 5)) 131 107 [.ref 136, .int (nI c)] [] (ms z f J Al) = xruns (O2 L) (zden L (d + 5)) 131 157 [.ref 136, .int (nI c)] [] (ms z f2 J Al2) ∧ ((qLeaf (bs.map lo) Q (lo c)).1 = true → RQ bs (qLeaf (bs.map lo) Q (lo c)).2 f2 Al2 ∧ Al2 175 = (qLeaf (bs.map lo) Q (lo c)).2.1 4 ∧ Al2 176 = (qLeaf (bs.map lo) Q (lo c)).2.1 5 ∧ Al2 177 = (qLeaf (bs.map lo) Q (lo c)).2.1 6) ∧ ((qLeaf (bs.map lo) Q (lo c)).1 = false → f2 68 = nI ((qLeaf (bs.map lo) Q (lo c)).2.2 10)) := by
  have hb2 := hb.2
  have c256 := hb.at hc
  obtain ⟨pl, _⟩ := List.getElem?_eq_some_iff.mp hc
  have h55 := hR.2.2.2.1
  have fr1 : FrM [55, 67, 68] [175, 176, 177, 178, 179, 180] f J Al f J (va_up (va_up (va_up Al 175 (Q.1 4 ++ [(Q.1 1).length])) 176 (Q.1 5 ++ [1])) 177 (Q.1 6 ++ [0])) := ((FrM.a (by simp)).trans (FrM.a (by simp))).trans (FrM.a (by simp))
  have R1 : RQ bs Q f (va_up (va_up (va_up Al 175 (Q.1 4 ++ [(Q.1 1).length])) 176 (Q.1 5 ++ [1])) 177 (Q.1 6 ++ [0])) := hR.fr (J := J) (J' := J) (((FrM.a (by simp)).trans (FrM.a (by simp))).trans (FrM.a (by simp)))
  have e107 : xruns (O2 L) (zden L (d + 5)) 131 107 [.ref 136, .int (nI c)] [] (ms z f J Al) = if c = 34 then xruns (O2 L) (zden L (d + 5)) 131 146 [.ref 136, .int (nI c)] [] (ms z f J (va_up (va_up (va_up Al 175 (Q.1 4 ++ [(Q.1 1).length])) 176 (Q.1 5 ++ [1])) 177 (Q.1 6 ++ [0]))) else xruns (O2 L) (zden L (d + 5)) 131 153 [.ref 136, .int (nI c)] [] (ms z f J (va_up (va_up (va_up Al 175 (Q.1 4 ++ [(Q.1 1).length])) 176 (Q.1 5 ++ [1])) 177 (Q.1 6 ++ [0]))) := by
    rw [B131_107, J136_52, Option.bind_some, M51r, Option.bind_some, M55r, Option.bind_some, h51, h55, A175 _ (by rw [h175]) a4, Option.bind_some, h175, J136_53, Option.bind_some, M51r, Option.bind_some, h51, A176 _ (by rw [vn _ _ (by omega), h176, a5]) a4, Option.bind_some, vn _ _ (by omega), h176, J136_54, Option.bind_some, M51r, Option.bind_some, h51, A177 _ (by rw [vn _ _ (by omega), vn _ _ (by omega), h177, a6]) a4, Option.bind_some, vn _ _ (show 177 ≠ 176 by omega), vn _ _ (show 177 ≠ 175 by omega), h177, iE (by omega) (by omega)]
  rw [e107]
  by_cases q : c = 34
  · subst q
    have l34 : lo 34 = 34 := rfl
    rw [if_pos rfl, l34]
    obtain ⟨f2, Al2, fr2, ex, y1, y2, y3⟩ := m130 (L := L) (d := d) (z := z) (A := J) hb R1 ok pl (by omega) h51 a4 (Q.1 5) (Q.1 6) a5 a6 (by rw [vn _ _ (by omega), vs]) (vs _ _ _)
    refine ⟨f2, Al2, fr1.trans (fr2.mono (by simp) (by simp)), by rw [B131_146, ex, Option.bind_some], ?_, ?_⟩
    · intro ht
      unfold qLeaf at ht ⊢
      rw [if_pos rfl] at ht ⊢
      by_cases P : (qPhrase (bs.map lo) Q).1 = true
      · rw [if_pos P] at ht ⊢
        obtain ⟨p1, p2, p3, p4, p5⟩ := qPh_ok 7 0 (qAt Q (Q.2 10 + 1)) (by omega) (ok.at (by rw [List.length_map]; omega))
        obtain ⟨r1, r2, r3⟩ := qRoom_ok (qb := bs.map lo) (Q := (qPhrase (bs.map lo) Q).2) p1
        have fr : qFr Q (qRoom (bs.map lo) (qPhrase (bs.map lo) Q).2).2 := ((qFr.at Q (Q.2 10 + 1)).trans p2).trans r2
        cases hr : (qRoom (bs.map lo) (qPhrase (bs.map lo) Q).2).1 with
        | none => rw [hr] at ht; cases ht
        | some r =>
          obtain ⟨x1, x2, x3⟩ := y1 r P hr
          refine ⟨x1, ?_, ?_, ?_⟩
          · rw [fr2.2.2 175 (by simp), vn _ _ (by omega), vn _ _ (by omega), vs]
            show _ = (qRoom (bs.map lo) (qPhrase (bs.map lo) Q).2).2.1 4 ++ [(Q.1 1).length]
            rw [fr.1 4 (by omega)]
          · rw [x2]
            show _ = (qRoom (bs.map lo) (qPhrase (bs.map lo) Q).2).2.1 5 ++ [((qRoom (bs.map lo) (qPhrase (bs.map lo) Q).2).2.1 1).length - (Q.1 1).length]
            rw [fr.1 5 (by omega), r3]
          · rw [x3]
            show _ = (qRoom (bs.map lo) (qPhrase (bs.map lo) Q).2).2.1 6 ++ [r]
            rw [fr.1 6 (by omega)]
      · rw [if_neg P] at ht; cases ht
    · intro ht
      unfold qLeaf at ht ⊢
      rw [if_pos rfl] at ht ⊢
      by_cases P : (qPhrase (bs.map lo) Q).1 = true
      · rw [if_pos P] at ht ⊢
        cases hr : (qRoom (bs.map lo) (qPhrase (bs.map lo) Q).2).1 with
        | none => exact y3 P hr
        | some r => rw [hr] at ht; cases ht
      · rw [if_neg P]
        exact y2 (by simpa using P)
  · have wc : isWd c = true := hw.resolve_left q
    have lq : lo c ≠ 34 := fun e => q ((lo_k rfl rfl).mp e)
    have W : 1 ≤ wrun (bs.map lo) (Q.2 10) := by
      have : (bs.map lo)[Q.2 10]?.any isWd = true := by rw [qwd, hc]; exact wc
      rw [wrun_wd] at this
      exact of_decide_eq_true this
    rw [if_neg q]
    obtain ⟨f2, Al2, fr2, ex, y1, y2⟩ := m129 (L := L) (d := d + 1) (z := z) (A := J) R1 hb ok W (by omega)
    obtain ⟨t1, t2, t3, t4⟩ := qTerm_ok ok
    refine ⟨f2, Al2, fr1.trans (fr2.mono (by simp) (by simp)), by rw [B131_153, ex, Option.bind_some], ?_, ?_⟩
    · intro ht
      unfold qLeaf at ht ⊢
      rw [if_neg lq] at ht ⊢
      by_cases P : (qTerm (bs.map lo) Q).1 = true
      · rw [if_pos P]
        refine ⟨y1 P, ?_, ?_, ?_⟩
        · rw [fr2.2.2 175 (by simp), vn _ _ (by omega), vn _ _ (by omega), vs]
          show _ = (qTerm (bs.map lo) Q).2.1 4 ++ [(Q.1 1).length]
          rw [t3.1.1 4 (by omega)]
        · rw [fr2.2.2 176 (by simp), vn _ _ (by omega), vs]
          show _ = (qTerm (bs.map lo) Q).2.1 5 ++ [((qTerm (bs.map lo) Q).2.1 1).length - (Q.1 1).length]
          rw [t3.1.1 5 (by omega), (t4 P).1, show (Q.1 1).length + 1 - (Q.1 1).length = 1 by omega]
        · rw [fr2.2.2 177 (by simp), vs]
          show _ = (qTerm (bs.map lo) Q).2.1 6 ++ [0]
          rw [t3.1.1 6 (by omega)]
      · rw [if_neg P] at ht; cases ht
    · intro ht
      unfold qLeaf at ht ⊢
      rw [if_neg lq] at ht ⊢
      by_cases P : (qTerm (bs.map lo) Q).1 = true
      · rw [if_pos P] at ht; cases ht
      · rw [if_neg P]
        exact y2 (by simpa using P)
theorem m131 (hb : BB bs) {Q : CT} {fr : FR} {D : DD} {f : Nat → Int32} {J : Nat → Nat → Int32} {Al : Nat → List Nat} (w : WfQ (bs.map lo) Q fr) (hV : MV bs Q fr D f Al) (h13 : Q.2 13 = 1) :
    ∃ f' J' Al', FrM FQ AQ f J Al f' J' Al' ∧ zden L (d + 6) 131 [.ref 136] (ms z f J Al) = some (0, ms z f' J' Al') ∧ (bs[Q.2 10]? = none → f' 68 = nI (Q.2 10)) ∧ (∀ c, (bs.map lo)[Q.2 10]? = some c → ((qOne (bs.map lo) Q fr c).1 = true → MV bs (qOne (bs.map lo) Q fr c).2.1 (qOne (bs.map lo) Q fr c).2.2 (dStep Q fr D c) f' Al') ∧ ((qOne (bs.map lo) Q fr c).1 = false → f' 68 = nI ((qOne (bs.map lo) Q fr c).2.1.2 10))) := by
  have hb2 := hb.2
  have w' := w
  obtain ⟨ok, a5, a6, a4, a1, a8, a9, ch, a11, a12, a12', a13, a13', b7, b7'⟩ := w
  obtain ⟨hR, h51, h175, h176, h177, h69, hD, hN, K, A, B, dT, hT0, hT1⟩ := hV
  obtain ⟨hM, hRM, hB⟩ := hT1 (by omega)
  obtain ⟨cn1, cn2⟩ := wOps_cnt ch hD
  have o2 := ok.2.1
  rw [List.length_map] at o2
  have dE : ∀ c, dStep Q fr D c = if c = 33 ∨ c = 40 then ([], []) :: D else attD fr D (lfS (Q.1 4).length) := fun c => by
    unfold dStep
    rw [if_neg (by omega)]
  have e98 : ∀ x1 : Int32, xruns (O2 L) (zden L (d + 5)) 131 98 [.ref 136, .int x1] [] (ms z f J Al) = some (0, ms z (va_up f 68 (nI (Q.2 10))) J Al) := by
    intro x1
    rw [B131_98, M67r, Option.bind_some, hR.2.2.1, M68p, Option.bind_some]
  have fr98 : FrM FQ AQ f J Al (va_up f 68 (nI (Q.2 10))) J Al := FrM.f (by simp)
  rw [N131 _ ob136, B131_0, m123 hR.1 hR.2.1 hR.2.2.1 hb o2, Option.bind_some, iZ hb (by omega)]
  by_cases deep : bs[Q.2 10]? = some 33 ∨ bs[Q.2 10]? = some 40
  · obtain ⟨c, hc, c2⟩ : ∃ c, bs[Q.2 10]? = some c ∧ (c = 33 ∨ c = 40) := by
      rcases deep with q | q
      · exact ⟨33, q, Or.inl rfl⟩
      · exact ⟨40, q, Or.inr rfl⟩
    have lc : (bs.map lo)[Q.2 10]? = some c := by
      rcases c2 with rfl | rfl
      · exact (qat rfl rfl).mpr hc
      · exact (qat rfl rfl).mpr hc
    obtain ⟨pl, _⟩ := List.getElem?_eq_some_iff.mp hc
    have to17 : (if bs[Q.2 10]? = some 33 then xruns (O2 L) (zden L (d + 5)) 131 17 [.ref 136, .int (oz bs[Q.2 10]?)] [] (ms z f J Al) else xruns (O2 L) (zden L (d + 5)) 131 11 [.ref 136, .int (oz bs[Q.2 10]?)] [] (ms z f J Al)) = xruns (O2 L) (zden L (d + 5)) 131 17 [.ref 136, .int (nI c)] [] (ms z f J Al) := by
      rw [hc]
      show (if some c = some 33 then xruns (O2 L) (zden L (d + 5)) 131 17 [.ref 136, .int (nI c)] [] (ms z f J Al) else xruns (O2 L) (zden L (d + 5)) 131 11 [.ref 136, .int (nI c)] [] (ms z f J Al)) = _
      by_cases q : c = 33
      · rw [if_pos (by rw [q])]
      · rw [if_neg (by simpa using q), B131_11, iE (by omega) (by omega), if_pos (by omega)]
    rw [to17, B131_17, m128 hRM.2.2.1 hRM.2.2.2.2.2.2.2 (by omega) cn2, Option.bind_some, iE (by omega) (by omega)]
    by_cases d8 : Q.2 12 < 8
    · have eO : qOne (bs.map lo) Q fr c = (true, qDeep Q fr c) := by
        unfold qOne
        rw [if_pos c2, if_pos d8]
      have push : ∀ y : Nat, FrM FQ AQ f J Al (va_up (va_up f 64 (nI ((wOps fr D).length + 1))) 67 (nI (Q.2 10 + 1))) J (va_up Al 184 ((wOps fr D).reverse ++ [y])) ∧ xruns (O2 L) (zden L (d + 5)) 131 54 [.ref 136, .int (nI c)] [.int (nI y), .int (nI (wOps fr D).length), .ref 184] (ms z f J Al) = some (0, ms z (va_up (va_up f 64 (nI ((wOps fr D).length + 1))) 67 (nI (Q.2 10 + 1))) J (va_up Al 184 ((wOps fr D).reverse ++ [y]))) ∧ RM K A B dT (y :: wOps fr D) (va_up (va_up f 64 (nI ((wOps fr D).length + 1))) 67 (nI (Q.2 10 + 1))) (va_up Al 184 ((wOps fr D).reverse ++ [y])) := by
        intro y
        obtain ⟨h1, h2, h3, h4, h5, h6, h7, h8⟩ := hRM
        refine ⟨((FrM.f (by simp)).trans (FrM.f (by simp))).trans (FrM.a (by simp)), ?_, ?_⟩
        · rw [B131_54, A184 _ (by rw [h8, List.length_reverse]) (by omega), Option.bind_some, M64r, Option.bind_some, h3, nI_add, M64p, Option.bind_some, M67r, Option.bind_some, vn _ _ (by omega), hR.2.2.1, nI_add, M67p, Option.bind_some, h8]
        · refine ⟨?_, ?_, ?_, ?_, ?_, ?_, ?_, ?_⟩
          · rw [vn _ _ (by omega), vn _ _ (by omega), h1]
          · rw [vn _ _ (by omega), vn _ _ (by omega), h2]
          · rw [vn _ _ (by omega), vs, List.length_cons]
          · rw [vn _ _ (by omega), h4]
          · rw [vn _ _ (by omega), h5]
          · rw [vn _ _ (by omega), h6]
          · rw [vn _ _ (by omega), h7]
          · rw [vs, List.reverse_cons]
      have RQ' : ∀ y : Nat, RQ bs (qAt Q (Q.2 10 + 1)) (va_up (va_up f 64 (nI ((wOps fr D).length + 1))) 67 (nI (Q.2 10 + 1))) (va_up Al 184 ((wOps fr D).reverse ++ [y])) := fun y => (hR.fr (J := J) (J' := J) ((FrM.f (k := 64) (x := nI ((wOps fr D).length + 1)) (by simp)).trans (FrM.a (by simp)))).at _
      have e35 : xruns (O2 L) (zden L (d + 5)) 131 35 [.ref 136, .int (nI c)] [] (ms z f J Al) = xruns (O2 L) (zden L (d + 5)) 131 54 [.ref 136, .int (nI c)] [.int (nI (if c = 33 then 1 else 4)), .int (nI (wOps fr D).length), .ref 184] (ms z f J Al) := by
        rw [B131_35, J136_63, Option.bind_some, M64r, Option.bind_some, hRM.2.2.1, iE (by omega) (by omega)]
        by_cases q : c = 33
        · rw [if_pos q, if_pos q, B131_49]
        · rw [if_neg q, if_neg q, B131_53]
      obtain ⟨p1, p2, p3⟩ := push (if c = 33 then 1 else 4)
      refine ⟨_, _, _, p1, by rw [if_neg (by omega), e35, p2], (fun q => by rw [hc] at q; cases q), fun c' hc' => ?_⟩
      have cc : c' = c := by rw [lc] at hc'; cases hc'; rfl
      subst cc
      rw [eO]
      refine ⟨fun _ => ?_, fun q => by cases q⟩
      obtain ⟨q1, q2, q3, q4, q5, q6, q7, q8⟩ := RQ' (if c' = 33 then 1 else 4)
      have DN' : DN (([], []) :: D) := by
        intro p hp s hs
        rcases List.mem_cons.mp hp with e | e
        · rw [e] at hs
          rcases hs with hs | hs <;> cases hs
        · exact hN p e s hs
      rw [dE, if_pos c2]
      have common : ∀ (Q' : CT) (fr' : FR), Q'.1 1 = Q.1 1 → Q'.1 2 = Q.1 2 → Q'.1 3 = Q.1 3 → Q'.1 4 = Q.1 4 → Q'.1 5 = Q.1 5 → Q'.1 6 = Q.1 6 → Q'.2 10 = Q.2 10 + 1 → Q'.2 12 = Q.2 12 + 1 → Q'.2 13 = Q.2 13 → fr'.length = fr.length + 1 → wSem fr' (([], []) :: D) = wSem fr D → wOps fr' (([], []) :: D) = (if c' = 33 then 1 else 4) :: wOps fr D → MV bs Q' fr' (([], []) :: D) (va_up (va_up f 64 (nI ((wOps fr D).length + 1))) 67 (nI (Q.2 10 + 1))) (va_up Al 184 ((wOps fr D).reverse ++ [if c' = 33 then 1 else 4])) := by
        intro Q' fr' g1 g2 g3 g4 g5 g6 g10 g12 g13 gl gs go
        refine ⟨⟨q1, q2, ?_, ?_, ?_, ?_, ?_, q8⟩, ?_, ?_, ?_, ?_, ?_, ?_, DN', K, A, B, dT, fun q => absurd q (by omega), fun _ => ⟨?_, ?_, ?_⟩⟩
        · rw [g10, vs]
        · rw [g1]; exact q4
        · rw [g1]; exact q5
        · rw [g2]; exact q6
        · rw [g3]; exact q7
        · rw [vn _ _ (by omega), vn _ _ (by omega), g4, h51]
        · rw [vn _ _ (by omega), g4, h175]
        · rw [vn _ _ (by omega), g5, h176]
        · rw [vn _ _ (by omega), g6, h177]
        · rw [vn _ _ (by omega), vn _ _ (by omega), g13, h69]
        · rw [gl, List.length_cons, hD]
        · rw [gs, g4]; exact hM
        · rw [go]; exact p3
        · rw [go, List.length_cons, g4, g12]; omega
      unfold qDeep
      by_cases q : c' = 33
      · rw [if_pos q]
        exact common _ _ rfl rfl rfl rfl rfl rfl rfl rfl rfl (by simp) rfl (by rw [if_pos q]; rfl)
      · rw [if_neg q]
        obtain ⟨v, fr1, rfl⟩ := chOk_ne ch
        exact common _ _ rfl rfl rfl rfl rfl rfl rfl rfl rfl (by simp) rfl (by rw [if_neg q]; rfl)
    · have eO : qOne (bs.map lo) Q fr c = (false, Q, fr) := by
        unfold qOne
        rw [if_pos c2, if_neg d8]
      refine ⟨_, _, _, fr98, ?_, (fun q => by rw [hc] at q; cases q), fun c' hc' => ?_⟩
      · rw [if_pos (by omega), B131_26, M67r, Option.bind_some, hR.2.2.1, M68p, Option.bind_some]
      · have cc : c' = c := by rw [lc] at hc'; cases hc'; rfl
        subst cc
        rw [eO]
        exact ⟨(fun q => by cases q), fun _ => vs _ _ _⟩
  · have n33 : ¬ bs[Q.2 10]? = some 33 := fun q => deep (Or.inl q)
    have n40 : ¬ bs[Q.2 10]? = some 40 := fun q => deep (Or.inr q)
    rw [if_neg n33, B131_11, iZ hb (by omega), if_neg n40, B131_76, iZ hb (by omega)]
    have qO : ∀ c, (bs.map lo)[Q.2 10]? = some c → qOne (bs.map lo) Q fr c = if 12 ≤ (Q.1 6).length then (false, Q, fr) else if (qLeaf (bs.map lo) Q c).1 = true then (true, qEnd (qNode (qLeaf (bs.map lo) Q c).2 3 (Q.2 11) (((qLeaf (bs.map lo) Q c).2.1 6).length - 1)) fr, dn fr) else (false, (qLeaf (bs.map lo) Q c).2, fr) := by
      intro c hc
      have : ¬ (c = 33 ∨ c = 40) := by
        intro q
        rcases q with rfl | rfl
        · exact n33 ((qat rfl rfl).mp hc)
        · exact n40 ((qat rfl rfl).mp hc)
      unfold qOne
      rw [if_neg this]
    by_cases wd : bs[Q.2 10]? = some 34 ∨ bs[Q.2 10]?.any isWd = true
    · -- at 89
      have to89 : (if bs[Q.2 10]? = some 34 then xruns (O2 L) (zden L (d + 5)) 131 89 [.ref 136, .int (oz bs[Q.2 10]?)] [] (ms z f J Al) else xruns (O2 L) (zden L (d + 5)) 131 82 [.ref 136, .int (oz bs[Q.2 10]?)] [] (ms z f J Al)) = xruns (O2 L) (zden L (d + 5)) 131 89 [.ref 136, .int (oz bs[Q.2 10]?)] [] (ms z f J Al) := by
        by_cases q : bs[Q.2 10]? = some 34
        · rw [if_pos q]
        · rw [if_neg q, B131_82, m112 (fun k => hb.at), Option.bind_some, iB, if_pos (wd.resolve_left q)]
      obtain ⟨c, hc, cw⟩ : ∃ c, bs[Q.2 10]? = some c ∧ (c = 34 ∨ isWd c = true) := by
        rcases wd with q | q
        · exact ⟨34, q, Or.inl rfl⟩
        · cases hc : bs[Q.2 10]? with
          | none => rw [hc] at q; cases q
          | some c => rw [hc] at q; exact ⟨c, rfl, Or.inr q⟩
      have lc : (bs.map lo)[Q.2 10]? = some (lo c) := by rw [List.getElem?_map, hc]; rfl
      rw [to89, B131_89, M51r, Option.bind_some, h51, iE (by omega) (by omega)]
      by_cases e12 : (Q.1 4).length = 12
      · refine ⟨_, _, _, fr98, by rw [if_pos e12, e98], (fun q => by rw [hc] at q; cases q), fun c' hc' => ?_⟩
        rw [qO c' hc', if_pos (by omega)]
        exact ⟨(fun q => by cases q), fun _ => vs _ _ _⟩
      · rw [if_neg e12, hc]
        show ∃ f' J' Al', FrM FQ AQ f J Al f' J' Al' ∧ xruns (O2 L) (zden L (d + 5)) 131 107 [.ref 136, .int (nI c)] [] (ms z f J Al) = some (0, ms z f' J' Al') ∧ _
        obtain ⟨f2, Al2, fr2, ex, y1, y2⟩ := m131_leaf (L := L) (d := d) (z := z) (J := J) hb hR ok a5 a6 (by omega) a1 h51 h175 h176 h177 hc cw
        obtain ⟨l1, l2, l3, l4⟩ := qLeaf_ok (c := lo c) ok lc
        have ol := l1.2.1
        rw [List.length_map] at ol
        have cE : ∀ c', (bs.map lo)[Q.2 10]? = some c' → c' = lo c := fun c' hc' => by rw [lc] at hc'; cases hc'; rfl
        by_cases T : (qLeaf (bs.map lo) Q (lo c)).1 = true
        · obtain ⟨z1, z2, z3, z4⟩ := y1 T
          obtain ⟨x4, x5, x6, x1, x1', _⟩ := l4 T
          have RM2 : RM K A B dT (wOps fr D) f2 Al2 := hRM.fr (fr2.mono (by simp) (by simp))
          have hM' := hM
          obtain ⟨TS, t1, t2, t3, t4, t5, t6, t7⟩ := hM'
          obtain ⟨f3, Al3, fr3, e3, R3⟩ := m125 (L := L) (d := d + 4) (z := z) (J := J) RM2 t2 t3 (by omega) (by omega) 0 (Q.1 4).length 0
          have M3 := MT.leaf (N' := (Q.1 4).length + 1) hM (a := (Q.1 4).length) (by omega) (by omega)
          have R3' : RM (K ++ [0]) (A ++ [(Q.1 4).length]) (B ++ [0]) (K.length :: dT) (wOps fr D) (va_up f3 51 (nI ((Q.1 4).length + 1))) Al3 := R3.fr (J := J) (J' := J) (FrM.f (by simp))
          obtain ⟨f4, J4, Al4, K4, A4, B4, u4, fr4, e4, M4, R4, c4⟩ := m126 (L := L) (d := d + 3) (z := z) (J := J) hD M3 R3' (by rw [List.length_append]; simp only [List.length_cons, List.length_nil]; omega)
          have f2_51 : f2 51 = nI (Q.1 4).length := by rw [fr2.2.1 51 (by simp), h51]
          have f3_51 : f3 51 = nI (Q.1 4).length := by rw [fr3.2.1 51 (by simp), f2_51]
          have z8 : f2 68 = -1 := z1.2.2.2.2.2.2.2
          have fr5 : FrM FQ AQ f J Al (va_up f4 69 (nI 0)) J4 Al4 := ((((fr2.mono (by simp) (by simp)).trans (fr3.mono (by simp) (by simp))).trans (FrM.f (k := 51) (x := nI ((Q.1 4).length + 1)) (by simp))).trans (fr4.mono (by simp) (by simp))).trans (FrM.f (by simp))
          have frB : FrM [51, 59, 64, 66, 69] [181, 182, 183, 184, 185] f2 J Al2 (va_up f4 69 (nI 0)) J4 Al4 := (((fr3.mono (by simp) (by simp)).trans (FrM.f (k := 51) (x := nI ((Q.1 4).length + 1)) (by simp))).trans (fr4.mono (by simp) (by simp))).trans (FrM.f (by simp))
          refine ⟨_, _, _, fr5, ?_, (fun q => by cases q), fun c' hc' => ?_⟩
          · rw [ex, B131_157, M68r, Option.bind_some, z8, if_pos (by decide), B131_165, M51r, Option.bind_some, f2_51, e3, Option.bind_some, M51r, Option.bind_some, f3_51, nI_add, M51p, Option.bind_some, e4, Option.bind_some, if_pos (Or.inl rfl), M69p, Option.bind_some]
          · have cq := cE c' hc'
            subst cq
            rw [qO _ hc', if_neg (by omega), if_pos T]
            refine ⟨fun _ => ?_, fun q => by cases q⟩
            obtain ⟨j, i, fr1, os, cs, D', g1, g2, g3, g4⟩ := dnD_ok ch hD
            rw [dE, if_neg (by intro q; rcases q with q | q <;> rcases cw with rfl | cw <;> first | (revert q; decide) | (have := isWd_lo2 c; rw [q] at this; rw [cw] at this; revert this; decide)), attD_eq g2]
            have zq := z1.fr (J := J) (J' := J4) (frB.mono (by simp) (by simp))
            refine ⟨zq, ?_, ?_, ?_, ?_, ?_, ?_, ?_, ?_⟩
            · show va_up f4 69 (nI 0) 51 = nI ((qLeaf (bs.map lo) Q (lo c)).2.1 4).length
              rw [vn _ _ (by omega), fr4.2.1 51 (by simp), vs, x4]
            · rw [frB.2.2 175 (by simp), z2]; rfl
            · rw [frB.2.2 176 (by simp), z3]; rfl
            · rw [frB.2.2 177 (by simp), z4]; rfl
            · rw [vs]; rfl
            · show ((os, cs ++ [ntN fr (lfS (Q.1 4).length)]) :: D').length = (dn fr).length
              rw [g1, List.length_cons, List.length_cons, g3]
            · intro p hp s hs
              have g4 := g4 hN
              rcases List.mem_cons.mp hp with e | e
              · rw [e] at hs
                rcases hs with hs | hs
                · exact g4 (os, cs) (by simp) s (Or.inl hs)
                · rcases List.mem_append.mp hs with hs | hs
                  · exact g4 (os, cs) (by simp) s (Or.inr hs)
                  · rw [List.mem_singleton.mp hs]
                    exact (Nrm.lf _).n fr
              · exact g4 p (List.mem_cons_of_mem _ e) s hs
            · refine ⟨K4, A4, B4, u4 :: dT, fun _ => ⟨os, cs, ntN fr (lfS (Q.1 4).length), D', rfl, ?_, ?_, ?_⟩, fun q => absurd (show (0 : Nat) = 0 from rfl) q⟩
              · rw [← g2, wSem_dn hD]
                show MT ((qLeaf (bs.map lo) Q (lo c)).2.1 4).length K4 A4 B4 (u4 :: dT) _
                rw [x4]; exact M4
              · rw [← g2]
                exact R4.fr (J := J4) (J' := J4) (FrM.f (by simp))
              · rw [← g2, c4]
                show (K ++ [0]).length + (wOps fr D).length + 1 ≤ 10 * ((qLeaf (bs.map lo) Q (lo c)).2.1 4).length
                rw [x4, List.length_append]
                simp only [List.length_cons, List.length_nil]
                omega
        · have T' : (qLeaf (bs.map lo) Q (lo c)).1 = false := by simpa using T
          refine ⟨f2, J, Al2, fr2.mono (by simp) (by simp), ?_, (fun q => by cases q), fun c' hc' => ?_⟩
          · rw [ex, B131_157, M68r, Option.bind_some, y2 T', iT (by omega) (by omega), if_neg (by omega), B131_164]
          · have cq := cE c' hc'
            subst cq
            rw [qO _ hc', if_neg (by omega), if_neg T]
            exact ⟨(fun q => by cases q), fun _ => y2 T'⟩
    · have n34 : ¬ bs[Q.2 10]? = some 34 := fun q => wd (Or.inl q)
      have nwd : ¬ bs[Q.2 10]?.any isWd = true := fun q => wd (Or.inr q)
      refine ⟨_, _, _, fr98, ?_, fun _ => vs _ _ _, fun c hc => ?_⟩
      · rw [if_neg n34, B131_82, m112 (fun k => hb.at), Option.bind_some, iB, if_neg nwd, e98]
      · rw [qO c hc]
        have c34 : c ≠ 34 := fun q => n34 ((qat rfl rfl).mp (by rw [hc, q]))
        have w0 : wrun (bs.map lo) (Q.2 10) = 0 := by
          have : ¬ (bs.map lo)[Q.2 10]?.any isWd = true := by rw [qwd]; exact nwd
          rw [wrun_wd] at this
          simp at this
          exact this
        have eL : qLeaf (bs.map lo) Q c = (false, Q) := by
          unfold qLeaf qTerm
          rw [if_neg c34, if_pos w0, if_neg (show ¬ ((false, Q) : Bool × CT).1 = true from Bool.false_ne_true)]
        rw [eL]
        by_cases e12 : 12 ≤ (Q.1 6).length
        · rw [if_pos e12]
          exact ⟨(fun q => by cases q), fun _ => vs _ _ _⟩
        · rw [if_neg e12, if_neg (show ¬ ((false, Q) : Bool × CT).1 = true from Bool.false_ne_true)]
          exact ⟨(fun q => by cases q), fun _ => vs _ _ _⟩
end
