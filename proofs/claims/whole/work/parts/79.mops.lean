/-! THE REFERENCE'S QUERY: complete, reduce, nested -/
/-- what waits below a ( -/
def wR : FR → DD → List Nat
  | [], _ => []
  | v :: fr, D => 4 :: wOps (v :: fr) D
theorem wOps_par (j i : Nat) (fr : FR) (os cs : List Sem) (D : DD) : wOps ((j + 1, i) :: fr) ((os, cs) :: D) = jn os cs ++ wR fr D := by
  cases fr with
  | nil => show jn os cs = _; unfold wR; rw [List.append_nil]
  | cons v fr => rfl
theorem wSem_par (j i : Nat) (fr : FR) (os cs : List Sem) (D : DD) : wSem ((j + 1, i) :: fr) ((os, cs) :: D) = js os cs ++ wSem fr D := rfl
theorem jn_top (os cs : List Sem) (fr : FR) (D : DD) : jn os cs ++ wR fr D = [] ∨ ∃ y l, jn os cs ++ wR fr D = y :: l ∧ (y = 2 ∨ y = 3 ∨ y = 4) := by
  unfold jn
  by_cases h1 : cs = []
  · rw [if_pos h1]
    by_cases h2 : os = []
    · rw [if_pos h2]
      cases fr with
      | nil => exact Or.inl rfl
      | cons v fr => exact Or.inr ⟨4, _, rfl, by omega⟩
    · rw [if_neg h2]; exact Or.inr ⟨3, _, rfl, by omega⟩
  · rw [if_neg h1]; exact Or.inr ⟨2, _, rfl, by omega⟩
section
variable {L d : Nat} {z : zS}
theorem m126_loop {N : Nat} : ∀ (fr : FR) (D : DD) (K A B dT : List Nat) (u : Nat) (s : Sem) (ss : List Sem) (f : Nat → Int32) (J : Nat → Nat → Int32) (Al : Nat → List Nat), D.length = fr.length → MT N K A B (u :: dT) (s :: ss) → RM K A B (u :: dT) (wOps fr D) f Al → K.length + (wOps fr D).length ≤ 190 →
    ∃ f' J' Al' K' A' B' u', FrM [59, 64, 66] [181, 182, 183, 184, 185] f J Al f' J' Al' ∧ xruns (O2 L) (zden L (d + 1)) 126 0 [.ref 136] [] (ms z f J Al) = some (0, ms z f' J' Al') ∧ MT N K' A' B' (u' :: dT) (ntN fr s :: ss) ∧ RM K' A' B' (u' :: dT) (wOps (dn fr) (dnD fr D)) f' Al' ∧ K'.length + (wOps (dn fr) (dnD fr D)).length = K.length + (wOps fr D).length := by
  intro fr
  induction fr with
  | nil =>
    intro D K A B dT u s ss f J Al hD hM hR hl
    have e : wOps [] D = [] := by cases D <;> rfl
    refine ⟨f, J, Al, K, A, B, u, FrM.refl, ?_, hM, hR, rfl⟩
    have h3 := hR.2.2.1
    rw [e] at h3
    rw [B126_0, M64r, Option.bind_some, h3, iL (by show 0 < _; omega) (by omega), if_pos (by simp), B126_60]
  | cons v fr ih =>
    intro D K A B dT u s ss f J Al hD hM hR hl
    obtain ⟨j, i⟩ := v
    cases D with
    | nil => cases hD
    | cons p D =>
      cases j with
      | zero =>
        have hR : RM K A B ([u] ++ dT) (1 :: wOps fr D) f Al := hR
        have hl : K.length + (1 :: wOps fr D).length ≤ 190 := hl
        have h3 := hR.2.2.1
        have h2 : f 66 = nI (dT.length + 1) := hR.2.1
        have h7 : Al 185 = dT.reverse ++ [u] := by rw [hR.2.2.2.2.2.2.1]; simp
        have M2 : MT N (K ++ [1]) (A ++ [u]) (B ++ [0]) (K.length :: dT) (ntS s :: ss) := MT.not hM
        obtain ⟨TS, t1, t2, t3, t4, t5, t6, t7⟩ := hM
        rw [List.length_cons] at t5 hl
        obtain ⟨J1, Al1, fr1, e1, R1⟩ := RM.pop (z := z) (J := J) hR
        obtain ⟨f2, Al2, fr2, e2, R2⟩ := m125 (L := L) (d := d) (z := z) (J := J1) R1 t2 t3 (by omega) (by omega) 1 u 0
        obtain ⟨f3, J3, Al3, K3, A3, B3, u3, fr3, e3, M3, R3, c3⟩ := ih D _ _ _ dT K.length (ntS s) ss f2 J1 Al2 (by simpa using hD) M2 R2 (by rw [List.length_append]; simp only [List.length_cons, List.length_nil]; omega)
        refine ⟨f3, J3, Al3, K3, A3, B3, u3, ((fr1.mono (by simp) (by simp)).trans (fr2.mono (by simp) (by simp))).trans fr3, ?_, M3, R3, ?_⟩
        · rw [B126_0, M64r, Option.bind_some, h3, iL (by rw [List.length_cons]; omega) (by omega), if_neg (by rw [List.length_cons]; omega), B126_7, J136_63, Option.bind_some, M64r, Option.bind_some, h3, RM.top hR (by omega), Option.bind_some, if_pos rfl, B126_22, M64r, Option.bind_some, h3, List.length_cons, pk_sub (by omega), Nat.add_sub_cancel, M64p, Option.bind_some, M66r, Option.bind_some, vn _ _ (by omega), h2, pk_sub (by omega), Nat.add_sub_cancel, M66p, Option.bind_some, J136_65, Option.bind_some, M66r, Option.bind_some, vs, L185 (by rw [h7]; simp) (by omega), Option.bind_some, h7]
          have gu : (dT.reverse ++ [u]).getD dT.length 0 = u := by
            simp [List.getD]
          rw [gu, e1, e2, Option.bind_some]
          exact e3
        · have c3 : K3.length + (wOps (dn fr) (dnD fr D)).length = (K ++ [1]).length + (wOps fr D).length := c3
          rw [List.length_append] at c3
          simp only [List.length_cons, List.length_nil] at c3
          show K3.length + (wOps (dn fr) (dnD fr D)).length = K.length + (1 :: wOps fr D).length
          rw [List.length_cons]
          omega
      | succ j =>
        obtain ⟨os, cs⟩ := p
        refine ⟨f, J, Al, K, A, B, u, FrM.refl, ?_, hM, hR, rfl⟩
        rw [wOps_par] at hR hl
        have h3 := hR.2.2.1
        rcases jn_top os cs fr D with e | ⟨y, l, e, hy⟩
        · rw [e] at h3
          rw [B126_0, M64r, Option.bind_some, h3, iL (by show 0 < _; omega) (by omega), if_pos (by simp), B126_60]
        · rw [e] at h3 hR hl
          rw [List.length_cons] at hl
          rw [B126_0, M64r, Option.bind_some, h3, iL (by rw [List.length_cons]; omega) (by omega), if_neg (by rw [List.length_cons]; omega), B126_7, J136_63, Option.bind_some, M64r, Option.bind_some, h3, RM.top hR (by omega), Option.bind_some, iE (by omega) (by omega), if_neg (by omega), B126_60]
theorem m126 {N : Nat} {fr : FR} {D : DD} {K A B dT : List Nat} {u : Nat} {s : Sem} {ss : List Sem} {f : Nat → Int32} {J : Nat → Nat → Int32} {Al : Nat → List Nat} (hD : D.length = fr.length) (hM : MT N K A B (u :: dT) (s :: ss)) (hR : RM K A B (u :: dT) (wOps fr D) f Al) (hl : K.length + (wOps fr D).length ≤ 190) :
    ∃ f' J' Al' K' A' B' u', FrM [59, 64, 66] [181, 182, 183, 184, 185] f J Al f' J' Al' ∧ zden L (d + 2) 126 [.ref 136] (ms z f J Al) = some (0, ms z f' J' Al') ∧ MT N K' A' B' (u' :: dT) (ntN fr s :: ss) ∧ RM K' A' B' (u' :: dT) (wOps (dn fr) (dnD fr D)) f' Al' ∧ K'.length + (wOps (dn fr) (dnD fr D)).length = K.length + (wOps fr D).length := by
  obtain ⟨f1, J1, Al1, K1, A1, B1, u1, h1, h2, h3⟩ := m126_loop (L := L) (d := d) (z := z) fr D K A B dT u s ss f J Al hD hM hR hl
  exact ⟨f1, J1, Al1, K1, A1, B1, u1, h1, by rw [N126 _ ob136]; exact h2, h3⟩
/-- one joint is reduced -/
theorem red1 {N : Nat} {K A B dT ops : List Nat} {w u op : Nat} {t s : Sem} {ss : List Sem} {f : Nat → Int32} {J : Nat → Nat → Int32} {Al : Nat → List Nat} {x1 : Int32} {v2 : Value} (hM : MT N K A B (w :: u :: dT) (t :: s :: ss)) (hR : RM K A B (w :: u :: dT) (op :: ops) f Al) (ho : op = 2 ∨ op = 3) (hx : op = 2 ∨ x1 = nI 3) (hl : K.length + (op :: ops).length ≤ 190) :
    ∃ f' J' Al', FrM [59, 64, 66] [181, 182, 183, 184, 185] f J Al f' J' Al' ∧ xruns (O2 L) (zden L (d + 1)) 127 0 [.ref 136, .int x1, v2] [] (ms z f J Al) = xruns (O2 L) (zden L (d + 1)) 127 0 [.ref 136, .int x1, .int (nI op)] [] (ms z f' J' Al') ∧ MT N (K ++ [op]) (A ++ [u]) (B ++ [w]) (K.length :: dT) ((if op = 2 then anS [s, t] else orS [s, t]) :: ss) ∧ RM (K ++ [op]) (A ++ [u]) (B ++ [w]) (K.length :: dT) ops f' Al' := by
  have hM2 := MT.join hM ho
  obtain ⟨TS, t1, t2, t3, t4, t5, t6, t7⟩ := hM
  have hR : RM K A B ([w, u] ++ dT) (op :: ops) f Al := hR
  have h3 := hR.2.2.1
  have h2 : f 66 = nI (dT.length + 2) := hR.2.1
  have h7 : Al 185 = dT.reverse ++ [u, w] := by rw [hR.2.2.2.2.2.2.1]; simp
  simp only [List.length_cons] at t5 hl
  obtain ⟨J1, Al1, fr1, e1, R1⟩ := RM.pop (z := z) (J := J) hR
  obtain ⟨f2, Al2, fr2, e2, R2⟩ := m125 (L := L) (d := d) (z := z) (J := J1) R1 t2 t3 (by omega) (by omega) op u w
  refine ⟨f2, J1, Al2, (fr1.mono (by simp) (by simp)).trans (fr2.mono (by simp) (by simp)), ?_, hM2, R2⟩
  have to42 : xruns (O2 L) (zden L (d + 1)) 127 0 [.ref 136, .int x1, v2] [] (ms z f J Al) = xruns (O2 L) (zden L (d + 1)) 127 42 [.ref 136, .int x1, v2] [] (ms z f J Al) := by
    rw [B127_0, M64r, Option.bind_some, h3, iL (by rw [List.length_cons]; omega) (by omega), if_neg (by rw [List.length_cons]; omega), B127_7, J136_63, Option.bind_some, M64r, Option.bind_some, h3, RM.top hR (by omega), Option.bind_some, iE (by omega) (by omega)]
    by_cases q : op = 2
    · rw [if_pos q]
    · have q3 : op = 3 := by omega
      rcases hx with hx | hx
      · exact absurd hx q
      · rw [if_neg q, B127_22, J136_63, Option.bind_some, M64r, Option.bind_some, h3, RM.top hR (by omega), Option.bind_some, iE (by omega) (by omega), if_pos q3, B127_37, if_pos hx]
  have g1 : (dT.reverse ++ [u, w]).getD dT.length 0 = u := by simp [List.getD]
  have g2 : (dT.reverse ++ [u, w]).getD (dT.length + 1) 0 = w := by simp [List.getD]
  rw [to42, B127_42, J136_63, Option.bind_some, M64r, Option.bind_some, h3, RM.top hR (by omega), Option.bind_some, Option.bind_some, List.length_cons, pk_sub (by omega), Nat.add_sub_cancel, M64p, Option.bind_some, M66r, Option.bind_some, vn _ _ (by omega), h2, pk_sub (by omega), Nat.add_sub_cancel, M66p, Option.bind_some, J136_65, Option.bind_some, M66r, Option.bind_some, vs, L185 (by rw [h7]; simp) (by omega), Option.bind_some, Option.bind_some, Option.bind_some, nI_add, L185 (by rw [h7]; simp) (by omega), Option.bind_some, h7, g1, g2, e1, e2, Option.bind_some]
theorem red0 {K A B dT ops : List Nat} {f : Nat → Int32} {J : Nat → Nat → Int32} {Al : Nat → List Nat} {x1 : Int32} {v2 : Value} (hR : RM K A B dT ops f Al) (hl : ops.length ≤ 190) (ho : ops = [] ∨ ∃ y l, ops = y :: l ∧ y ≤ 4 ∧ y ≠ 2 ∧ (y ≠ 3 ∨ x1 ≠ nI 3)) : xruns (O2 L) (zden L (d + 1)) 127 0 [.ref 136, .int x1, v2] [] (ms z f J Al) = some (0, ms z f J Al) := by
  have h3 := hR.2.2.1
  rcases ho with rfl | ⟨y, l, rfl, y4, y2, y3⟩
  · rw [B127_0, M64r, Option.bind_some, h3, iL (by show 0 < _; omega) (by omega), if_pos (by simp), B127_102]
  · rw [List.length_cons] at hl
    rw [B127_0, M64r, Option.bind_some, h3, iL (by rw [List.length_cons]; omega) (by omega), if_neg (by rw [List.length_cons]; omega), B127_7, J136_63, Option.bind_some, M64r, Option.bind_some, h3, RM.top hR (by omega), Option.bind_some, iE (by omega) (by omega), if_neg y2, B127_22, J136_63, Option.bind_some, M64r, Option.bind_some, h3, RM.top hR (by omega), Option.bind_some, iE (by omega) (by omega)]
    by_cases q : y = 3
    · rcases y3 with y3 | y3
      · exact absurd q y3
      · rw [if_pos q, B127_37, if_neg y3, B127_102]
    · rw [if_neg q, B127_102]
theorem MT.two {N : Nat} {K A B dT : List Nat} {t s : Sem} {ss : List Sem} (h : MT N K A B dT (t :: s :: ss)) : ∃ w u dT', dT = w :: u :: dT' := by
  obtain ⟨TS, t1, t2, t3, t4, t5, t6, t7⟩ := h
  match dT, t6 with
  | [], t6 => cases t6
  | [w], t6 => exact absurd (congrArg List.length t6) (by simp)
  | w :: u :: dT', _ => exact ⟨w, u, dT', rfl⟩
theorem MT.one {N : Nat} {K A B dT : List Nat} {s : Sem} {ss : List Sem} (h : MT N K A B dT (s :: ss)) : ∃ u dT', dT = u :: dT' := by
  obtain ⟨TS, t1, t2, t3, t4, t5, t6, t7⟩ := h
  match dT, t6 with
  | [], t6 => cases t6
  | w :: dT', _ => exact ⟨w, dT', rfl⟩
/-- the & of a frame -/
theorem redA {N : Nat} {K A B dT R : List Nat} {x : Sem} {os cs ss : List Sem} {f : Nat → Int32} {J : Nat → Nat → Int32} {Al : Nat → List Nat} {x1 : Int32} {v2 : Value} (hx : Nrm x) (hM : MT N K A B dT (x :: (js os cs ++ ss))) (hR : RM K A B dT (jn os cs ++ R) f Al) (hl : K.length + (jn os cs ++ R).length ≤ 190) :
    ∃ f' J' Al' K' A' B' dT' v', FrM [59, 64, 66] [181, 182, 183, 184, 185] f J Al f' J' Al' ∧ xruns (O2 L) (zden L (d + 1)) 127 0 [.ref 136, .int x1, v2] [] (ms z f J Al) = xruns (O2 L) (zden L (d + 1)) 127 0 [.ref 136, .int x1, v'] [] (ms z f' J' Al') ∧ MT N K' A' B' dT' (anS (cs ++ [x]) :: (js os [] ++ ss)) ∧ RM K' A' B' dT' (jn os [] ++ R) f' Al' ∧ K'.length + (jn os [] ++ R).length = K.length + (jn os cs ++ R).length := by
  by_cases h : cs = []
  · subst h
    refine ⟨f, J, Al, K, A, B, dT, v2, FrM.refl, rfl, ?_, hR, rfl⟩
    rw [List.nil_append, anS_1 hx]
    exact hM
  · have ej : jn os cs = 2 :: jn os [] := by
      unfold jn
      rw [if_neg h, if_pos rfl]; rfl
    have es : js os cs = anS cs :: js os [] := by
      unfold js
      rw [if_neg h, if_pos rfl]; rfl
    rw [ej] at hR hl ⊢
    rw [es] at hM
    obtain ⟨w, u, dT', rfl⟩ := MT.two hM
    obtain ⟨f', J', Al', h1, h2, h3, h4⟩ := red1 (L := L) (d := d) (z := z) (J := J) (x1 := x1) (v2 := v2) hM hR (Or.inl rfl) (Or.inl rfl) hl
    rw [if_pos rfl, anS_app] at h3
    refine ⟨f', J', Al', _, _, _, _, _, h1, h2, h3, h4, ?_⟩
    rw [List.length_append, List.cons_append, List.length_cons]
    simp only [List.length_cons, List.length_nil]
    omega
/-- the | of a frame -/
theorem redO {N : Nat} {K A B dT R : List Nat} {x : Sem} {os ss : List Sem} {f : Nat → Int32} {J : Nat → Nat → Int32} {Al : Nat → List Nat} {v2 : Value} (hM : MT N K A B dT (x :: (js os [] ++ ss))) (hR : RM K A B dT (jn os [] ++ R) f Al) (hl : K.length + (jn os [] ++ R).length ≤ 190) :
    ∃ f' J' Al' K' A' B' dT' v', FrM [59, 64, 66] [181, 182, 183, 184, 185] f J Al f' J' Al' ∧ xruns (O2 L) (zden L (d + 1)) 127 0 [.ref 136, .int (nI 3), v2] [] (ms z f J Al) = xruns (O2 L) (zden L (d + 1)) 127 0 [.ref 136, .int (nI 3), v'] [] (ms z f' J' Al') ∧ MT N K' A' B' dT' (orS (os ++ [x]) :: ss) ∧ RM K' A' B' dT' R f' Al' ∧ K'.length + R.length = K.length + (jn os [] ++ R).length := by
  by_cases h : os = []
  · subst h
    refine ⟨f, J, Al, K, A, B, dT, v2, FrM.refl, rfl, ?_, hR, rfl⟩
    rw [List.nil_append, orS_1]
    exact hM
  · have ej : jn os [] = [3] := by
      unfold jn
      rw [if_pos rfl, if_neg h]; rfl
    have es : js os [] = [orS os] := by
      unfold js
      rw [if_pos rfl, if_neg h]; rfl
    rw [ej] at hR hl ⊢
    rw [es] at hM
    obtain ⟨w, u, dT', rfl⟩ := MT.two hM
    obtain ⟨f', J', Al', h1, h2, h3, h4⟩ := red1 (L := L) (d := d) (z := z) (J := J) (x1 := nI 3) (v2 := v2) hM hR (Or.inr rfl) (Or.inr rfl) hl
    rw [if_neg (by omega), orS_app] at h3
    refine ⟨f', J', Al', _, _, _, _, _, h1, h2, h3, h4, ?_⟩
    rw [List.length_append, List.cons_append, List.nil_append, List.length_cons]
    simp only [List.length_cons, List.length_nil]
    omega
theorem wR_top (fr : FR) (D : DD) : wR fr D = [] ∨ ∃ y l, wR fr D = y :: l ∧ y = 4 := by
  cases fr with
  | nil => exact Or.inl rfl
  | cons v fr => exact Or.inr ⟨4, _, rfl, rfl⟩
theorem m127a {N : Nat} {K A B dT : List Nat} {fr : FR} {D : DD} {x : Sem} {os cs ss : List Sem} {f : Nat → Int32} {J : Nat → Nat → Int32} {Al : Nat → List Nat} (hx : Nrm x) (hM : MT N K A B dT (x :: (js os cs ++ ss))) (hR : RM K A B dT (jn os cs ++ wR fr D) f Al) (hl : K.length + (jn os cs ++ wR fr D).length ≤ 190) :
    ∃ f' J' Al' K' A' B' dT', FrM [59, 64, 66] [181, 182, 183, 184, 185] f J Al f' J' Al' ∧ zden L (d + 2) 127 [.ref 136, .int (nI 2)] (ms z f J Al) = some (0, ms z f' J' Al') ∧ MT N K' A' B' dT' (anS (cs ++ [x]) :: (js os [] ++ ss)) ∧ RM K' A' B' dT' (jn os [] ++ wR fr D) f' Al' ∧ K'.length + (jn os [] ++ wR fr D).length = K.length + (jn os cs ++ wR fr D).length := by
  obtain ⟨f1, J1, Al1, K1, A1, B1, dT1, v1, h1, h2, h3, h4, h5⟩ := redA (L := L) (d := d) (z := z) (J := J) (x1 := nI 2) (v2 := .null) hx hM hR hl
  refine ⟨f1, J1, Al1, K1, A1, B1, dT1, h1, ?_, h3, h4, h5⟩
  rw [N127 _ _ ob136, h2]
  refine red0 h4 (by omega) ?_
  unfold jn
  rw [if_pos rfl, List.nil_append]
  by_cases h : os = []
  · rw [if_pos h, List.nil_append]
    rcases wR_top fr D with e | ⟨y, l, e, hy⟩
    · exact Or.inl e
    · exact Or.inr ⟨y, l, e, by omega, by omega, Or.inl (by omega)⟩
  · rw [if_neg h]
    exact Or.inr ⟨3, _, rfl, by omega, by omega, Or.inr (by decide)⟩
theorem m127o {N : Nat} {K A B dT : List Nat} {fr : FR} {D : DD} {x : Sem} {os cs ss : List Sem} {f : Nat → Int32} {J : Nat → Nat → Int32} {Al : Nat → List Nat} (hx : Nrm x) (hM : MT N K A B dT (x :: (js os cs ++ ss))) (hR : RM K A B dT (jn os cs ++ wR fr D) f Al) (hl : K.length + (jn os cs ++ wR fr D).length ≤ 190) :
    ∃ f' J' Al' K' A' B' dT', FrM [59, 64, 66] [181, 182, 183, 184, 185] f J Al f' J' Al' ∧ zden L (d + 2) 127 [.ref 136, .int (nI 3)] (ms z f J Al) = some (0, ms z f' J' Al') ∧ MT N K' A' B' dT' (orS (os ++ [anS (cs ++ [x])]) :: ss) ∧ RM K' A' B' dT' (wR fr D) f' Al' ∧ K'.length + (wR fr D).length = K.length + (jn os cs ++ wR fr D).length := by
  obtain ⟨f1, J1, Al1, K1, A1, B1, dT1, v1, h1, h2, h3, h4, h5⟩ := redA (L := L) (d := d) (z := z) (J := J) (x1 := nI 3) (v2 := .null) hx hM hR hl
  obtain ⟨f2, J2, Al2, K2, A2, B2, dT2, v2, g1, g2, g3, g4, g5⟩ := redO (L := L) (d := d) (z := z) (J := J1) (v2 := v1) h3 h4 (by omega)
  refine ⟨f2, J2, Al2, K2, A2, B2, dT2, h1.trans g1, ?_, g3, g4, by omega⟩
  rw [N127 _ _ ob136, h2, g2]
  refine red0 g4 (by omega) ?_
  rcases wR_top fr D with e | ⟨y, l, e, hy⟩
  · exact Or.inl e
  · exact Or.inr ⟨y, l, e, by omega, by omega, Or.inl (by omega)⟩
def isNO (x : Nat) : Bool := decide (x = 1 ∨ x = 4)
theorem m128 {op : List Nat} {f : Nat → Int32} {J : Nat → Nat → Int32} {Al : Nat → List Nat} (h64 : f 64 = nI op.length) (h184 : Al 184 = op.reverse) (hl : op.length ≤ 190) (h4 : ∀ x ∈ op, x ≤ 4) : zden L (d + 1) 128 [.ref 136] (ms z f J Al) = some (nI (op.countP isNO), ms z f J Al) := by
  have key : ∀ (r k : Nat), k + r = op.length → xruns (O2 L) (zden L d) 128 4 [.ref 136, .int (nI (((op.reverse).take k).countP isNO)), .int (nI k)] [] (ms z f J Al) = some (nI (op.countP isNO), ms z f J Al) := by
    intro r
    induction r with
    | zero =>
      intro k hk
      rw [B128_4, M64r, Option.bind_some, h64, iL (by omega) (by omega), if_pos (by omega), B128_46, show k = op.reverse.length by simp; omega, List.take_length, List.countP_reverse]
    | succ r ih =>
      intro k hk
      have kl : k < op.reverse.length := by simp; omega
      have y4 : op.reverse[k] ≤ 4 := h4 _ (List.mem_reverse.mp (List.getElem_mem kl))
      have ld : (O2 L).2.2.2.2.2.1 (ms z f J Al) 0 184 (nI k) = some (nI op.reverse[k]) := by
        rw [L184 (by rw [h184]; exact kl) (by omega), h184, gD kl]
      have tk : ((op.reverse).take (k + 1)).countP isNO = ((op.reverse).take k).countP isNO + (if isNO op.reverse[k] = true then 1 else 0) := by
        rw [List.take_succ, List.countP_append, List.getElem?_eq_getElem kl]
        simp only [Option.toList_some, List.countP_cons, List.countP_nil, Nat.zero_add]
      have fin : ∀ x, x ≤ 1 → (x = 1 ↔ isNO op.reverse[k] = true) → xruns (O2 L) (zden L d) 128 38 [.ref 136, .int (nI (((op.reverse).take k).countP isNO)), .int (nI k)] [.int (nI x), .int (nI (((op.reverse).take k).countP isNO))] (ms z f J Al) = some (nI (op.countP isNO), ms z f J Al) := by
        intro x x1 hx
        have e : x = if isNO op.reverse[k] = true then 1 else 0 := by
          by_cases q : isNO op.reverse[k] = true
          · rw [if_pos q]; exact hx.mpr q
          · rw [if_neg q]
            have : x ≠ 1 := fun e => q (hx.mp e)
            omega
        rw [B128_38, nI_add, nI_add, e, ← tk]
        exact ih (k + 1) (by omega)
      rw [B128_4, M64r, Option.bind_some, h64, iL (by omega) (by omega), if_neg (by omega), B128_12, J136_63, Option.bind_some, ld, Option.bind_some, iE (by omega) (by omega)]
      by_cases q1 : op.reverse[k] = 1
      · rw [if_pos q1, B128_33]
        exact fin 1 (by omega) ⟨fun _ => by unfold isNO; exact decide_eq_true (Or.inl q1), fun _ => rfl⟩
      · rw [if_neg q1, B128_23, J136_63, Option.bind_some, ld, Option.bind_some, iE (by omega) (by omega)]
        by_cases q2 : op.reverse[k] = 4
        · rw [if_pos q2, B128_33]
          exact fin 1 (by omega) ⟨fun _ => by unfold isNO; exact decide_eq_true (Or.inr q2), fun _ => rfl⟩
        · rw [if_neg q2, B128_37]
          refine fin 0 (by omega) ⟨fun q => by omega, fun q => ?_⟩
          unfold isNO at q
          have := of_decide_eq_true q
          omega
  rw [N128 _ ob136, B128_0]
  exact key op.length 0 (by omega)
end
theorem jn_cnt (os cs : List Sem) : (jn os cs).countP isNO = 0 ∧ (∀ x ∈ jn os cs, x ≤ 4) := by
  unfold jn
  by_cases h1 : cs = [] <;> by_cases h2 : os = [] <;> simp [h1, h2, isNO]
theorem wOps_cnt {K P : List Nat} : ∀ {fr : FR} {D : DD}, chOk K P fr → D.length = fr.length → (wOps fr D).countP isNO + 1 = fr.length ∧ (∀ x ∈ wOps fr D, x ≤ 4) := by
  intro fr
  induction fr with
  | nil => intro D h; exact absurd h id
  | cons v fr ih =>
    intro D h hD
    obtain ⟨j, i⟩ := v
    cases D with
    | nil => cases hD
    | cons p D =>
      obtain ⟨os, cs⟩ := p
      have hD2 : D.length = fr.length := by simpa using hD
      obtain ⟨c1, c2⟩ := jn_cnt os cs
      cases j with
      | zero =>
        obtain ⟨i1, i2⟩ := ih h.2.2.2 hD2
        have e : wOps ((0, i) :: fr) ((os, cs) :: D) = 1 :: wOps fr D := rfl
        rw [e]
        refine ⟨?_, ?_⟩
        · rw [List.countP_cons, if_pos (by decide), List.length_cons]; omega
        · intro x hx
          rcases List.mem_cons.mp hx with q | q
          · omega
          · exact i2 x q
      | succ j =>
        rw [wOps_par]
        cases fr with
        | nil =>
          unfold wR
          rw [List.append_nil]
          exact ⟨by rw [c1]; rfl, c2⟩
        | cons w fr =>
          obtain ⟨i1, i2⟩ := ih h.2.2.2.2.2.2 hD2
          unfold wR
          refine ⟨?_, ?_⟩
          · rw [List.countP_append, c1, List.countP_cons, if_pos (by decide), List.length_cons]; omega
          · intro x hx
            rcases List.mem_append.mp hx with q | q
            · exact c2 x q
            · rcases List.mem_cons.mp q with q | q
              · omega
              · exact i2 x q
