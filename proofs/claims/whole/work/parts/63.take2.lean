/-! THE REFERENCE: take, the loops -/
theorem ms_up {z : zS} {f : Nat → Int32} {A : Nat → Nat → Int32} {Al : KT} (a : Nat) (l : List Nat) (h : Al a = l) : ms z f A (va_up Al a l) = ms z f A Al := by
  rw [← h, vi]
theorem tkS {l : List Nat} {k : Nat} (h : k < l.length) : l.take k ++ [l[k]] = l.take (k + 1) := by
  rw [List.take_succ, List.getElem?_eq_getElem h]
  rfl
section
variable {L d : Nat} {z : zS} {bs : List Nat}
theorem m119_loop (hb : BB bs) : ∀ (r p : Nat) (T : CT) (K : KT) (f : Nat → Int32) (A : Nat → Nat → Int32) (Al : KT) (v2 v3 v4 v5 : Value) (T' : CT), bs.length ≤ p + r → p ≤ bs.length → WfT p T → T.1 0 = bs → cgo bs r p T = (none, T') → KW p K → RA K Al → f 1 = nI bs.length → Al 137 = bs → f 4 = nI (K 139).length → f 10 = nI (K 144).length →
    ∃ f' Al', FrM [48, 4, 10] [139, 140, 141, 142, 143, 144, 145, 146] f A Al f' A Al' ∧ xruns (O2 L) (zden L (d + 2)) 119 62 [.ref 136, .int (nI p), v2, v3, v4, v5] [] (ms z f A Al) = some (0, ms z f' A Al') ∧ RA (kgo bs r p T K) Al' ∧ f' 4 = nI (kgo bs r p T K 139).length ∧ f' 10 = nI (kgo bs r p T K 144).length ∧ KW bs.length (kgo bs r p T K) := by
  have hb2 := hb.2
  intro r
  induction r with
  | zero =>
    intro p T K f A Al v2 v3 v4 v5 T' hr hp w hz hg kw ra h1 h2 h4 h10
    refine ⟨f, Al, FrM.refl, ?_, ra, h4, h10, ?_⟩
    · rw [B119_62, M1r, Option.bind_some, h1, iL (by omega) (by omega), if_pos (by omega), B119_350]
    · rw [show bs.length = p by omega]; exact kw
  | succ r ih =>
    intro p T K f A Al v2 v3 v4 v5 T' hr hp w hz hg kw ra h1 h2 h4 h10
    by_cases e : p < bs.length
    · have ecg : cgo bs (r + 1) p T = match cStep bs p T with
        | none => (some p, T)
        | some (n, T') => cgo bs r (p + n) T' := by
        conv => lhs; unfold cgo
        rw [if_pos e]
        cases cStep bs p T <;> rfl
      have ekg : kgo bs (r + 1) p T K = match cStep bs p T with
        | none => K
        | some (n, T') => kgo bs r (p + n) T' (kStep bs p n K) := by
        conv => lhs; unfold kgo
        rw [if_pos e]
        cases cStep bs p T <;> rfl
      cases hs : cStep bs p T with
      | none => rw [ecg, hs] at hg; cases hg
      | some nT =>
        obtain ⟨n, T1⟩ := nT
        rw [ecg, hs] at hg
        rw [hs] at ekg
        simp only at hg ekg
        obtain ⟨w', n1, n2, hz'⟩ := cStep_wf w hs
        have kw' := kStep_w hs kw
        obtain ⟨c, hc, c1, c2, hk⟩ := cStep_kind hs
        have c256 := hb.at hc
        have kwA : KW p Al := by
          unfold KW
          rw [ra 139 (by omega) (by omega), ra 140 (by omega) (by omega), ra 141 (by omega) (by omega), ra 142 (by omega) (by omega), ra 143 (by omega) (by omega), ra 144 (by omega) (by omega), ra 145 (by omega) (by omega), ra 146 (by omega) (by omega)]
          exact kw
        have h4' : f 4 = nI (Al 139).length := by rw [ra 139 (by omega) (by omega), h4]
        have h10' : f 10 = nI (Al 144).length := by rw [ra 144 (by omega) (by omega), h10]
        have pre : xruns (O2 L) (zden L (d + 2)) 119 62 [.ref 136, .int (nI p), v2, v3, v4, v5] [] (ms z f A Al) = if c = 60 then xruns (O2 L) (zden L (d + 2)) 119 83 [.ref 136, .int (nI p), .int (nI c), v3, v4, v5] [] (ms z f A Al) else xruns (O2 L) (zden L (d + 2)) 119 226 [.ref 136, .int (nI p), .int (nI c), v3, v4, v5] [] (ms z f A Al) := by
          rw [B119_62, M1r, Option.bind_some, h1, iL (by omega) (by omega), if_neg (by omega), B119_70, J136_0, Option.bind_some, L137s h2 hb hc, Option.bind_some, iE (by omega) (by omega)]
        rw [pre, ekg]
        by_cases e60 : c = 60
        · rcases hk with ⟨q, q1, q2, q3, q4⟩ | ⟨q, q1, q2, q3, q4, q5⟩ | ⟨q, q1, q2, q3, q4⟩ | ⟨q, q1, q2, q3, q4⟩
          · obtain ⟨y2, y3, y4, y5, ex⟩ := m119_tag (L := L) (d := d) (z := z) (A := A) (x2 := nI c) (v3 := v3) (v4 := v4) (v5 := v5) hb h1 h2 h4' h10' kwA e q1
            have eK : kStep bs p n K = kTag K p (p + n) (if bs[p + 1]? = some 47 then 1 else 0) (if isBr bs p = true then 1 else 0) := by
              unfold kStep
              rw [gDo hc, if_pos e60]
            rw [if_pos e60, ex, ← q3]
            rw [eK] at kw' ⊢
            obtain ⟨f2, Al2, fr, ex2, ra2, g4, g10, kw2⟩ := ih (p + n) T1 _ (va_up (va_up f 48 (nI (p + n))) 10 (nI ((Al 144).length + 1))) A _ y2 y3 y4 y5 T' (by omega) n2 w' (by rw [hz', hz]) hg kw' (ra.tag (p := p) (e := p + n) (cl := if bs[p + 1]? = some 47 then 1 else 0) (br := if isBr bs p = true then 1 else 0)) (by rw [vn _ _ (by omega), vn _ _ (by omega), h1]) (by simp (disch := omega) only [kTag, vn]; exact h2) (by rw [vn _ _ (by omega), vn _ _ (by omega), h4]; simp (disch := omega) only [kTag, vn]) (by rw [vs, ra 144 (by omega) (by omega)]; simp (disch := omega) only [kTag, vs, vn, List.length_append, List.length_cons, List.length_nil])
            refine ⟨f2, Al2, FrM.trans ?_ fr, ex2, ra2, g4, g10, kw2⟩
            exact (((((((FrM.f (by simp)).trans (FrM.f (by simp))).trans (FrM.a (by simp))).trans (FrM.a (by simp))).trans (FrM.a (by simp))).trans (FrM.a (by simp))).trans (FrM.a (by simp)))
          · exact absurd e60 q
          · omega
          · exact absurd e60 q
        · rw [if_neg e60]
          have eK : kStep bs p n K = kSign K (kCh bs p) p (p + n) := by
            unfold kStep
            rw [gDo hc, if_neg e60]
          have hn2 : c = 38 → n = nameL bs p := by
            intro q38
            rcases hk with ⟨q, q1, q2, q3, q4⟩ | ⟨q, q1, q2, q3, q4, q5⟩ | ⟨q, q1, q2, q3, q4⟩ | ⟨q, q1, q2, q3, q4⟩
            · exact absurd q e60
            · exact absurd q38 q1
            · exact q3
            · exact absurd q38 q1
          have hn1 : c ≠ 38 → n = 1 := by
            intro q38
            rcases hk with ⟨q, q1, q2, q3, q4⟩ | ⟨q, q1, q2, q3, q4, q5⟩ | ⟨q, q1, q2, q3, q4⟩ | ⟨q, q1, q2, q3, q4⟩
            · exact absurd q e60
            · exact q4
            · exact absurd q q38
            · exact q3
          have pre2 : ∃ v3', xruns (O2 L) (zden L (d + 2)) 119 226 [.ref 136, .int (nI p), .int (nI c), v3, v4, v5] [] (ms z f A Al) = xruns (O2 L) (zden L (d + 2)) 119 241 [.ref 136, .int (nI p), .int (nI c), v3', v4, v5] [.int (nI n)] (ms z f A Al) := by
            rw [B119_226, iE (by omega) (by omega)]
            by_cases e38 : c = 38
            · rw [if_pos e38, B119_232, m117 h2 h1 hb (by omega), Option.bind_some, hn2 e38]
              exact ⟨_, rfl⟩
            · rw [if_neg e38, B119_240, hn1 e38]
              exact ⟨_, rfl⟩
          obtain ⟨v3', pre2⟩ := pre2
          obtain ⟨y2, y3, y4, y5, ex⟩ := m119_sign (L := L) (d := d) (z := z) (f := f) (A := A) (v3 := v3') (v4 := v4) (v5 := v5) hb h2 h4' kwA n2 n1 hc hn2
          rw [pre2, ex]
          rw [eK] at kw' ⊢
          obtain ⟨f2, Al2, fr, ex2, ra2, g4, g10, kw2⟩ := ih (p + n) T1 _ (va_up f 4 (nI ((Al 139).length + 1))) A _ y2 y3 y4 y5 T' (by omega) n2 w' (by rw [hz', hz]) hg kw' (ra.sign (p := p) (e := p + n) (ch := kCh bs p)) (by rw [vn _ _ (by omega), h1]) (by simp (disch := omega) only [kSign, vn]; exact h2) (by rw [vs, ra 139 (by omega) (by omega)]; simp (disch := omega) only [kSign, vs, vn, List.length_append, List.length_cons, List.length_nil]) (by rw [vn _ _ (by omega), h10]; simp (disch := omega) only [kSign, vn])
          refine ⟨f2, Al2, FrM.trans ?_ fr, ex2, ra2, g4, g10, kw2⟩
          exact ((((((FrM.f (by simp)).trans (FrM.a (by simp))).trans (FrM.a (by simp))).trans (FrM.a (by simp))).trans (FrM.a (by simp))).trans (FrM.a (by simp)))
    · have hp' : p = bs.length := by omega
      have ekg : kgo bs (r + 1) p T K = K := by
        unfold kgo
        rw [if_neg e]
      rw [ekg]
      refine ⟨f, Al, FrM.refl, ?_, ra, h4, h10, ?_⟩
      · rw [B119_62, M1r, Option.bind_some, h1, iL (by omega) (by omega), if_pos (by omega), B119_350]
      · rw [← hp']; exact kw
theorem m119_copy (hb : BB bs) {f : Nat → Int32} {A : Nat → Nat → Int32} {v2 v3 v4 v5 : Value} : ∀ (r k : Nat) (Al : KT), k + r = bs.length → f 1 = nI bs.length → Al 137 = bs → Al 138 = bs.take k → xruns (O2 L) (zden L (d + 2)) 119 10 [.ref 136, .int (nI k), v2, v3, v4, v5] [] (ms z f A Al) = xruns (O2 L) (zden L (d + 2)) 119 36 [.ref 136, .int (nI bs.length), v2, v3, v4, v5] [] (ms z f A (va_up Al 138 bs)) := by
  have hb2 := hb.2
  intro r
  induction r with
  | zero =>
    intro k Al hk h1 h2 h3
    have : k = bs.length := by omega
    subst this
    rw [List.take_length] at h3
    rw [B119_10, M1r, Option.bind_some, h1, iL (by omega) (by omega), if_pos (by omega), ms_up 138 bs h3]
  | succ r ih =>
    intro k Al hk h1 h2 h3
    have hl : (Al 138).length = k := by rw [h3, List.length_take]; omega
    rw [B119_10, M1r, Option.bind_some, h1, iL (by omega) (by omega), if_neg (by omega), B119_18, J136_2, Option.bind_some, J136_0, Option.bind_some, L137 (by rw [h2]; omega) (by omega), Option.bind_some, A138 _ hl (by omega), Option.bind_some, nI_add, ih (k + 1) _ (by omega) h1 (by rw [vn _ _ (by omega), h2]) (by rw [vs, h3, h2, gD (by omega), tkS (by omega)])]
    congr 2
    funext a
    by_cases q : a = 138
    · subst q; rw [vs, vs]
    · rw [vn _ _ q, vn _ _ q, vn _ _ q]
theorem m119 (hb : BB bs) {f : Nat → Int32} {A : Nat → Nat → Int32} {Al : KT} (h1 : f 1 = nI bs.length) (h2 : Al 137 = bs) (hc : (cread bs).1 = none) : ∃ f' A' Al', FrM [48, 3, 4, 10] [138, 139, 140, 141, 142, 143, 144, 145, 146] f A Al f' A' Al' ∧ zden L (d + 3) 119 [.ref 136] (ms z f A Al) = some (0, ms z f' A' Al') ∧ RA (kread bs) Al' ∧ f' 3 = nI bs.length ∧ f' 4 = nI (kread bs 139).length ∧ f' 10 = nI (kread bs 144).length ∧ Al' 138 = bs ∧ KW bs.length (kread bs) := by
  have hb2 := hb.2
  have hg : ∃ T', cgo bs bs.length 0 (T0 bs) = (none, T') := by
    unfold cread at hc
    cases hq : cgo bs bs.length 0 (T0 bs) with
    | mk q T' =>
      cases q with
      | none => exact ⟨T', rfl⟩
      | some q => rw [hq] at hc; cases hc
  obtain ⟨T', hg⟩ := hg
  obtain ⟨B1, j1, e1⟩ := ms_forget (z := z) (f := f) (A := A) (Al := Al) 138
  obtain ⟨B2, j2, e2⟩ := ms_forget (z := z) (f := f) (A := B1) (Al := va_up Al 138 []) 139
  obtain ⟨B3, j3, e3⟩ := ms_forget (z := z) (f := f) (A := B2) (Al := va_up (va_up Al 138 []) 139 []) 140
  obtain ⟨B4, j4, e4⟩ := ms_forget (z := z) (f := f) (A := B3) (Al := va_up (va_up (va_up Al 138 []) 139 []) 140 []) 141
  obtain ⟨B5, j5, e5⟩ := ms_forget (z := z) (f := f) (A := B4) (Al := va_up (va_up (va_up (va_up Al 138 []) 139 []) 140 []) 141 []) 142
  obtain ⟨B6, j6, e6⟩ := ms_forget (z := z) (f := f) (A := B5) (Al := va_up (va_up (va_up (va_up (va_up Al 138 []) 139 []) 140 []) 141 []) 142 []) 143
  obtain ⟨B7, j7, e7⟩ := ms_forget (z := z) (f := f) (A := B6) (Al := va_up (va_up (va_up (va_up (va_up (va_up Al 138 []) 139 []) 140 []) 141 []) 142 []) 143 []) 144
  obtain ⟨B8, j8, e8⟩ := ms_forget (z := z) (f := f) (A := B7) (Al := va_up (va_up (va_up (va_up (va_up (va_up (va_up Al 138 []) 139 []) 140 []) 141 []) 142 []) 143 []) 144 []) 145
  obtain ⟨B9, j9, e9⟩ := ms_forget (z := z) (f := f) (A := B8) (Al := va_up (va_up (va_up (va_up (va_up (va_up (va_up (va_up Al 138 []) 139 []) 140 []) 141 []) 142 []) 143 []) 144 []) 145 []) 146
  rw [j1, j2, j3, j4, j5, j6, j7, j8, j9]
  have hA0 : B9 0 = A 0 := by rw [e9, e8, e7, e6, e5, e4, e3, e2, e1]
  generalize hQ : va_up (va_up (va_up (va_up (va_up (va_up (va_up (va_up (va_up Al 138 []) 139 []) 140 []) 141 []) 142 []) 143 []) 144 []) 145 []) 146 [] = Q
  have q138 : Q 138 = [] := by rw [← hQ]; simp (disch := omega) only [vn, vs]
  have q137 : Q 137 = bs := by rw [← hQ]; simp (disch := omega) only [vn]; exact h2
  have qE : ∀ a, 138 ≤ a → a ≤ 146 → Q a = [] := by
    intro a ha hb
    rw [← hQ]
    have : a = 138 ∨ a = 139 ∨ a = 140 ∨ a = 141 ∨ a = 142 ∨ a = 143 ∨ a = 144 ∨ a = 145 ∨ a = 146 := by omega
    rcases this with rfl | rfl | rfl | rfl | rfl | rfl | rfl | rfl | rfl <;> simp (disch := omega) only [vn, vs]
  have qN : ∀ a, a < 138 ∨ 146 < a → Q a = Al a := by
    intro a ha
    rw [← hQ]
    simp (disch := omega) only [vn]
  have ra : RA K0 (va_up (va_up (va_up Q 138 bs) 142 [0]) 143 [0]) := by
    intro a ha hb
    unfold K0
    by_cases q1 : a = 143
    · subst q1; rfl
    · by_cases q2 : a = 142
      · subst q2; rfl
      · rw [vn _ _ q1, vn _ _ q2, vn _ _ (by omega), qE a (by omega) hb, if_neg (by omega)]
  obtain ⟨f', Al', fr, ex, ra', g4, g10, kw⟩ := m119_loop (L := L) (d := d) (z := z) hb bs.length 0 (T0 bs) K0 (va_up (va_up (va_up f 3 (nI bs.length)) 4 (nI 0)) 10 (nI 0)) B9 (va_up (va_up (va_up Q 138 bs) 142 [0]) 143 [0]) .null .null .null .null T' (by omega) (by omega) (WfT0 bs) rfl hg (by refine ⟨rfl, rfl, rfl, rfl, rfl, rfl, ?_, ?_⟩ <;> simp [K0]) ra (by simp (disch := omega) only [vn]; exact h1) (by simp (disch := omega) only [vn]; exact q137) (by simp (disch := omega) only [vn, vs]; rfl) (by rw [vs]; rfl)
  refine ⟨f', B9, Al', ?_, ?_, ra', ?_, g4, g10, ?_, kw⟩
  · refine ⟨hA0, fun k hk => ?_, fun a ha => ?_⟩
    · rw [fr.2.1 k (fun q => hk (by simp at q ⊢; omega))]
      simp only [List.mem_cons, List.not_mem_nil, or_false, not_or] at hk
      rw [vn _ _ hk.2.2.2, vn _ _ hk.2.2.1, vn _ _ hk.2.1]
    · rw [fr.2.2 a (fun q => ha (by simp at q ⊢; omega))]
      simp only [List.mem_cons, List.not_mem_nil, or_false, not_or] at ha
      rw [vn _ _ (by omega), vn _ _ (by omega), vn _ _ (by omega), qN a (by omega)]
  · rw [N119 _ ob136, B119_0, M1r, Option.bind_some, M3p, Option.bind_some, h1, m119_copy hb bs.length 0 Q (by omega) (by rw [vn _ _ (by omega), h1]) q137 (by rw [q138]; rfl), B119_36, M4p, Option.bind_some, M10p, Option.bind_some, J136_8, Option.bind_some, iO0, A142 0 (by rw [vn _ _ (by omega), qE _ (by omega) (by omega)]; rfl) (by omega), Option.bind_some, J136_9, Option.bind_some, iO0, A143 0 (by rw [vn _ _ (by omega), vn _ _ (by omega), qE _ (by omega) (by omega)]; rfl) (by omega), Option.bind_some, vn _ _ (by omega), qE 142 (by omega) (by omega), vn _ _ (by omega), vn _ _ (by omega), qE 143 (by omega) (by omega)]
    exact ex
  · rw [fr.2.1 3 (by simp)]; simp (disch := omega) only [vn, vs]
  · rw [fr.2.2 138 (by simp)]; simp (disch := omega) only [vn, vs]
end
