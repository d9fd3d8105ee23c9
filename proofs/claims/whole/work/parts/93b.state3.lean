/-! THE WHOLE STATE: text, query and limit of the reference -/
def AR (J : Nat → Nat → Int32) (Al : Nat → List Nat) : Nat → Nat → Int32 := fun a i => if 137 ≤ a ∧ i < (Al a).length then nI ((Al a).getD i 0) else J a i
theorem ms_AR {Z : zS} {F : Nat → Int32} {J : Nat → Nat → Int32} {Al : Nat → List Nat} (h1 : Z.2.1 136 = F) (h2 : Z.2.2.1 = AR J Al) : Z = ms Z F J Al := by
  unfold ms
  refine Prod.ext rfl (Prod.ext (funext fun a => funext fun k => ?_) (Prod.ext h2 rfl))
  simp only
  split
  · rename_i h; rw [h, h1]
  · rfl
def MI (xs : Nat → Int32) (F : Nat → Int32) (A : Nat → Nat → Int32) (tp bs : List Nat) (Q : CT) (S : Option Sem) (lim : Nat) (pf pl ot : List Nat) : Prop := ∃ J Al, A = AR J Al ∧ J 0 = xs ∧ F 1 = nI tp.length ∧ Al 137 = tp ∧ MTB bs F Al ∧ MQX Q F Al ∧ MNX Q S F Al ∧ F 36 = nI lim ∧ MR (cread bs).2 Q S (min lim ((cread bs).2.1 1).length) Al ∧ F 43 = nI pf.length ∧ Al 170 = pf ∧ Al 171 = pl ∧ F 47 = nI ot.length ∧ Al 172 = ot
/-- only the reference's part changes -/
def SC (Z Z' : zS) : Prop := Z'.1 = Z.1 ∧ (∀ a, a ≠ 136 → Z'.2.1 a = Z.2.1 a) ∧ Z'.2.2.2 = Z.2.2.2
theorem SC_ms (Z : zS) (F : Nat → Int32) (J : Nat → Nat → Int32) (Al : Nat → List Nat) : SC Z (ms Z F J Al) := by
  refine ⟨rfl, fun a ha => funext fun k => ?_, rfl⟩
  unfold ms
  simp only
  rw [if_neg ha]
theorem ms_f (Z : zS) (F : Nat → Int32) (J : Nat → Nat → Int32) (Al : Nat → List Nat) : (ms Z F J Al).2.1 136 = F := by
  funext k
  unfold ms
  simp only
  rw [if_pos trivial]
theorem MTB.fr {bs : List Nat} {f f' : Nat → Int32} {Al Al' : Nat → List Nat} (h : MTB bs f Al) (h1 : ∀ k, k ∈ [3, 4, 10, 14, 19] → f' k = f k) (h2 : ∀ a, 138 ≤ a → a ≤ 151 → Al' a = Al a) : MTB bs f' Al' := by
  obtain ⟨m1, m2, m3, m4, m5, m6, m7, m8, m9, m10, m11, m12⟩ := h
  exact ⟨fun a a1 a2 => by rw [h2 a (by omega) (by omega)]; exact m1 a a1 a2, by rw [h1 3 (by simp)]; exact m2, by rw [h1 4 (by simp)]; exact m3, by rw [h1 10 (by simp)]; exact m4, by rw [h2 138 (by omega) (by omega)]; exact m5, by rw [h1 14 (by simp)]; exact m6, by rw [h1 19 (by simp)]; exact m7, by rw [h2 147 (by omega) (by omega)]; exact m8, by rw [h2 148 (by omega) (by omega)]; exact m9, by rw [h2 149 (by omega) (by omega)]; exact m10, by rw [h2 150 (by omega) (by omega)]; exact m11, by rw [h2 151 (by omega) (by omega)]; exact m12⟩
theorem MQX.fr {Q : CT} {f f' : Nat → Int32} {Al Al' : Nat → List Nat} (h : MQX Q f Al) (h1 : f' 21 = f 21) (h2 : ∀ a, 152 ≤ a → a ≤ 158 → Al' a = Al a) : MQX Q f' Al' := by
  obtain ⟨b1, b2, b3, b4, b5, b6, b7, b8⟩ := h
  exact ⟨by rw [h1]; exact b1, by rw [h2 152 (by omega) (by omega)]; exact b2, by rw [h2 153 (by omega) (by omega)]; exact b3, by rw [h2 154 (by omega) (by omega)]; exact b4, by rw [h2 155 (by omega) (by omega)]; exact b5, by rw [h2 156 (by omega) (by omega)]; exact b6, by rw [h2 157 (by omega) (by omega)]; exact b7, by rw [h2 158 (by omega) (by omega)]; exact b8⟩
theorem MNX.fr {Q : CT} {S : Option Sem} {f f' : Nat → Int32} {Al Al' : Nat → List Nat} (h : MNX Q S f Al) (h1 : f' 30 = f 30) (h2 : ∀ a, 159 ≤ a → a ≤ 161 → Al' a = Al a) : MNX Q S f' Al' := by
  refine ⟨fun q => by rw [h1]; exact h.1 q, fun s hs => ?_⟩
  rw [h1, h2 159 (by omega) (by omega), h2 160 (by omega) (by omega), h2 161 (by omega) (by omega)]
  exact h.2 s hs
theorem MX_of {bs : List Nat} {Q : CT} {S : Option Sem} {n : Nat} {f : Nat → Int32} {Al : Nat → List Nat} (hb : BB bs) (hr : (cread bs).1 = none) (qo : QOK Q S) (hn : n ≤ 300) (h1 : MTB bs f Al) (h2 : MQX Q f Al) (h3 : f 36 = nI n) : MX (cread bs).2 Q (min n ((cread bs).2.1 1).length) n f Al := by
  obtain ⟨to, mo, mx, _, _, _⟩ := txt_ok hb hr
  obtain ⟨tl, tz, t3, tpl, tw⟩ := to
  obtain ⟨ql, qf, n12, n400, qn, qs⟩ := qo
  exact ⟨mx f Al h1, h2, h3, hn, rfl, tl, ql, tw, qf, n12, mo, tpl⟩
theorem take_snoc {l : List Nat} {k : Nat} (h : k < l.length) : l.take k ++ [l.getD k 0] = l.take (k + 1) := by
  rw [List.take_succ, List.getElem?_eq_getElem h, gD h]; rfl
section
variable {L d : Nat} {Z : zS} {xs : Nat → Int32} {tp bs : List Nat} {Q : CT} {S : Option Sem} {lim : Nat} {pf pl ot : List Nat}
/-- work, for the whole state -/
theorem m_work {F : Nat → Int32} {J : Nat → Nat → Int32} {Al : Nat → List Nat} (hb : BB bs) (hr : (cread bs).1 = none) (qo : QOK Q S) (hn : lim ≤ 300) (h1 : MTB bs F Al) (h2 : MQX Q F Al) (h3 : MNX Q S F Al) (h36 : F 36 = nI lim) : ∃ J' Al', FrM [] [162, 163, 164, 165, 166, 167, 168, 169, 186, 187] F J Al F J' Al' ∧ zden L (d + 6) 141 [.ref 136] (ms Z F J Al) = some (0, ms Z F J' Al') ∧ MTB bs F Al' ∧ MQX Q F Al' ∧ MNX Q S F Al' ∧ MR (cread bs).2 Q S (min lim ((cread bs).2.1 1).length) Al' := by
  obtain ⟨J', Al', fr, e, mr⟩ := m141 (L := L) (d := d) (z := Z) (J := J) (MX_of hb hr qo hn h1 h2 h36) h3 (fun q => (qo.2.2.2.2.1 q).2)
  exact ⟨J', Al', fr, e, h1.fr (fun _ _ => rfl) (fun a a1 a2 => fr.2.2 a (by simp; omega)), h2.fr rfl (fun a a1 a2 => fr.2.2 a (by simp; omega)), h3.fr rfl (fun a a1 a2 => fr.2.2 a (by simp; omega)), mr⟩
/-- the reference's state, with what is to be forgotten forgotten -/
theorem MI_get {F : Nat → Int32} (hF : Z.2.1 136 = F) (h : MI xs F Z.2.2.1 tp bs Q S lim pf pl ot) : ∃ J Al, Z = ms Z F J Al ∧ J 0 = xs ∧ Al 170 = [] ∧ Al 171 = [] ∧ F 1 = nI tp.length ∧ Al 137 = tp ∧ MTB bs F Al ∧ MQX Q F Al ∧ MNX Q S F Al ∧ F 36 = nI lim ∧ MR (cread bs).2 Q S (min lim ((cread bs).2.1 1).length) Al ∧ F 47 = nI ot.length ∧ Al 172 = ot := by
  obtain ⟨J, Al, eA, j0, h1, h137, hT, hQ, hN, h36, hR, h43, h170, h171, h47, h172⟩ := h
  obtain ⟨J1, Al1, k1, k2, k3, k4⟩ := ms_forgetL (z := Z) (f := F) [170, 171] J Al
  obtain ⟨g1, g2, g3, g4, g5, g6, g7⟩ := hR
  refine ⟨J1, Al1, (ms_AR hF eA).trans k1, k2.trans j0, k3 170 (by simp), k3 171 (by simp), h1, by rw [k4 137 (by simp)]; exact h137, hT.fr (fun _ _ => rfl) (fun a a1 a2 => k4 a (by simp; omega)), hQ.fr rfl (fun a a1 a2 => k4 a (by simp; omega)), hN.fr rfl (fun a a1 a2 => k4 a (by simp; omega)), h36, ⟨by rw [k4 164 (by simp)]; exact g1, by rw [k4 165 (by simp)]; exact g2, by rw [k4 166 (by simp)]; exact g3, by rw [k4 167 (by simp)]; exact g4, by rw [k4 168 (by simp)]; exact g5, by rw [k4 169 (by simp)]; exact g6, by rw [k4 162 (by simp), k4 159 (by simp)]; exact g7⟩, h47, by rw [k4 172 (by simp)]; exact h172⟩
theorem m_limit (h : MI xs (Z.2.1 136) Z.2.2.1 tp bs Q S lim pf pl ot) (hb : BB bs) (hr : (cread bs).1 = none) (qo : QOK Q S) (x : Int32) :
    (x < nI 0 ∨ ¬ x ≤ nI 300 → zden L (d + 7) 135 [.ref 136, .int x] Z = some (-1, Z)) ∧ (∀ n, x = nI n → n ≤ 300 → ∃ Z', SC Z Z' ∧ zden L (d + 7) 135 [.ref 136, .int x] Z = some (nI lim, Z') ∧ MI xs (Z'.2.1 136) Z'.2.2.1 tp bs Q S n [] [] ot) := by
  generalize hF : Z.2.1 136 = F at h
  obtain ⟨J, Al, eZ, j0, h170, h171, h1, h137, hT, hQ, hN, h36, hR, h47, h172⟩ := MI_get hF h
  refine ⟨fun hx => ?_, fun n hx hn => ?_⟩
  · rw [N135 _ _ ob136, B135_0]
    by_cases c : x < nI 0
    · rw [if_pos c, B135_11]
    · rw [if_neg c, B135_4, if_neg (hx.resolve_left c), B135_11]
  · subst hx
    have f36 : va_up (va_up F 36 (nI n)) 43 (nI 0) 36 = nI n := by rw [vn _ _ (by omega), vs]
    have fo : ∀ k, k ≠ 36 → k ≠ 43 → va_up (va_up F 36 (nI n)) 43 (nI 0) k = F k := fun k h1 h2 => by rw [vn _ _ h2, vn _ _ h1]
    obtain ⟨J', Al', fr, e, t', q', n', r'⟩ := m_work (L := L) (d := d) (Z := Z) (J := J) (F := va_up (va_up F 36 (nI n)) 43 (nI 0)) (Al := Al) hb hr qo hn (hT.fr (fun k hk => fo k (by simp at hk; omega) (by simp at hk; omega)) (fun _ _ _ => rfl)) (hQ.fr (fo 21 (by omega) (by omega)) (fun _ _ _ => rfl)) (hN.fr (fo 30 (by omega) (by omega)) (fun _ _ _ => rfl)) f36
    refine ⟨ms Z (va_up (va_up F 36 (nI n)) 43 (nI 0)) J' Al', SC_ms Z _ J' Al', ?_, ?_⟩
    · rw [N135 _ _ ob136, B135_0, iT (by omega) (by omega), if_neg (by omega), B135_4, iL (by omega) (by omega), if_pos hn, B135_13]
      conv => lhs; rw [eZ]
      rw [M36r, Option.bind_some, h36, M36p, Option.bind_some, M43p, Option.bind_some, e, Option.bind_some]
    · rw [ms_f]
      exact ⟨J', Al', rfl, by rw [fr.1, j0], by rw [fo 1 (by omega) (by omega)]; exact h1, by rw [fr.2.2 137 (by simp)]; exact h137, t', q', n', f36, r', vs _ _ _, by rw [fr.2.2 170 (by simp)]; exact h170, by rw [fr.2.2 171 (by simp)]; exact h171, by rw [fo 47 (by omega) (by omega)]; exact h47, by rw [fr.2.2 172 (by simp)]; exact h172⟩
theorem m_text (h : MI xs (Z.2.1 136) Z.2.2.1 tp bs Q S lim pf pl ot) (ht : BB tp) (hb : BB bs) (hr : (cread bs).1 = none) (qo : QOK Q S) (hn : lim ≤ 300) :
    ∃ Z', SC Z Z' ∧ (∀ p, (cread tp).1 = some p → p ≤ tp.length → zden L (d + 7) 122 [.ref 136] Z = some (-1 - nI p, Z') ∧ MI xs (Z'.2.1 136) Z'.2.2.1 [] bs Q S lim [] [] ot) ∧ ((cread tp).1 = none → zden L (d + 7) 122 [.ref 136] Z = some (nI ((cread tp).2.1 1).length, Z') ∧ MI xs (Z'.2.1 136) Z'.2.2.1 [] tp Q S lim [] [] ot) := by
  have ht2 := ht.2
  generalize hF : Z.2.1 136 = F at h
  obtain ⟨J, Al, eZ, j0, h170, h171, h1, h137, hT, hQ, hN, h36, hR, h47, h172⟩ := MI_get hF h
  obtain ⟨f1, J1, Al1, fr1, e1⟩ := m118 (L := L) (d := d + 3) (z := Z) (bs := tp) ht (f := va_up F 43 (nI 0)) (A := J) (Al := Al) (by rw [vn _ _ (by omega)]; exact h1) h137
  have e1 : zden L (d + 6) 118 [.ref 136] (ms Z (va_up F 43 (nI 0)) J Al) = some (fI (cread tp).1, ms Z f1 J1 Al1) := e1
  have ff : ∀ k, k ≠ 43 → k ≠ 48 → f1 k = F k := fun k h1 h2 => by
    rw [fr1.2.1 k (by simpa using h2), vn _ _ h1]
  have aa : ∀ a, a ≠ 173 → a ≠ 174 → Al1 a = Al a := fun a h1 h2 => fr1.2.2 a (by simp; omega)
  have f43 : f1 43 = nI 0 := by rw [fr1.2.1 43 (by simp), vs]
  have hT1 : MTB bs f1 Al1 := hT.fr (fun k hk => ff k (by simp at hk; omega) (by simp at hk; omega)) (fun a a1 a2 => aa a (by omega) (by omega))
  have hQ1 : MQX Q f1 Al1 := hQ.fr (ff 21 (by omega) (by omega)) (fun a a1 a2 => aa a (by omega) (by omega))
  have hN1 : MNX Q S f1 Al1 := hN.fr (ff 30 (by omega) (by omega)) (fun a a1 a2 => aa a (by omega) (by omega))
  have start : zden L (d + 7) 122 [.ref 136] Z = if nI 0 ≤ fI (cread tp).1 then xruns (O2 L) (zden L (d + 6)) 122 22 [.ref 136, .int (fI (cread tp).1)] [] (ms Z f1 J1 Al1) else xruns (O2 L) (zden L (d + 6)) 122 14 [.ref 136, .int (fI (cread tp).1)] [] (ms Z f1 J1 Al1) := by
    conv => lhs; rw [eZ]
    rw [N122 _ ob136, B122_0, M43p, Option.bind_some, e1, Option.bind_some]
  -- the end: the tape is empty, work
  have fin : ∀ (bs' : List Nat) (f2 : Nat → Int32) (J2 : Nat → Nat → Int32) (Al2 : Nat → List Nat) (x : Int32), BB bs' → (cread bs').1 = none → J2 0 = xs → MTB bs' f2 Al2 → MQX Q f2 Al2 → MNX Q S f2 Al2 → f2 36 = nI lim → f2 43 = nI 0 → f2 47 = nI ot.length → Al2 170 = [] → Al2 171 = [] → Al2 172 = ot → Al2 137 = [] → ∃ F' J' Al', xruns (O2 L) (zden L (d + 6)) 122 22 [.ref 136, .int x] [] (ms Z f2 J2 Al2) = (if nI 0 ≤ x then some (-1 - x, ms Z F' J' Al') else some (nI ((cread bs').2.1 1).length, ms Z F' J' Al')) ∧ MI xs F' (AR J' Al') [] bs' Q S lim [] [] ot := by
    intro bs' f2 J2 Al2 x hb' hr' g0 gT gQ gN g36 g43 g47 g170 g171 g172 g137
    have fo : ∀ k, k ≠ 1 → va_up f2 1 (nI 0) k = f2 k := fun k h => vn _ _ h
    obtain ⟨J3, Al3, fr3, e3, t', q', n', r'⟩ := m_work (L := L) (d := d) (Z := Z) (J := J2) (F := va_up f2 1 (nI 0)) (Al := Al2) hb' hr' qo hn (gT.fr (fun k hk => fo k (by simp at hk; omega)) (fun _ _ _ => rfl)) (gQ.fr (fo 21 (by omega)) (fun _ _ _ => rfl)) (gN.fr (fo 30 (by omega)) (fun _ _ _ => rfl)) (by rw [fo 36 (by omega)]; exact g36)
    refine ⟨va_up f2 1 (nI 0), J3, Al3, ?_, J3, Al3, rfl, by rw [fr3.1, g0], vs _ _ _, by rw [fr3.2.2 137 (by simp)]; exact g137, t', q', n', by rw [fo 36 (by omega)]; exact g36, r', by rw [fo 43 (by omega)]; exact g43, by rw [fr3.2.2 170 (by simp)]; exact g170, by rw [fr3.2.2 171 (by simp)]; exact g171, by rw [fo 47 (by omega)]; exact g47, by rw [fr3.2.2 172 (by simp)]; exact g172⟩
    obtain ⟨_, _, _, _, w1, _⟩ := txt_ok hb' hr'
    rw [B122_22, M1p, Option.bind_some, e3, Option.bind_some]
    by_cases c : nI 0 ≤ x
    · rw [if_pos c, if_pos c, B122_42, B122_45]
    · rw [if_neg c, if_neg c, B122_35, M14r, Option.bind_some, B122_45, fo 14 (by omega), gT.2.2.2.2.2.1, w1]
  cases hc : (cread tp).1 with
  | some p =>
    obtain ⟨J2, Al2, k1, k2, k3, k4⟩ := ms_forgetL (z := Z) (f := f1) [137] J1 Al1
    obtain ⟨F', J', Al', e, mi⟩ := fin bs f1 J2 Al2 (nI p) hb hr (by rw [k2, fr1.1, j0]) (hT1.fr (fun _ _ => rfl) (fun a a1 a2 => k4 a (by simp; omega))) (hQ1.fr rfl (fun a a1 a2 => k4 a (by simp; omega))) (hN1.fr rfl (fun a a1 a2 => k4 a (by simp; omega))) (by rw [ff 36 (by omega) (by omega)]; exact h36) f43 (by rw [ff 47 (by omega) (by omega)]; exact h47) (by rw [k4 170 (by simp), aa 170 (by omega) (by omega)]; exact h170) (by rw [k4 171 (by simp), aa 171 (by omega) (by omega)]; exact h171) (by rw [k4 172 (by simp), aa 172 (by omega) (by omega)]; exact h172) (k3 137 (by simp))
    refine ⟨ms Z F' J' Al', SC_ms Z _ _ _, fun p' hp hpl => ?_, fun q => by cases q⟩
    cases hp
    refine ⟨?_, by rw [ms_f]; exact mi⟩
    have c0 : nI 0 ≤ nI p := nI_le (Nat.zero_le _) (by omega)
    rw [start, hc]
    show (if nI 0 ≤ nI p then xruns (O2 L) (zden L (d + 6)) 122 22 [.ref 136, .int (nI p)] [] (ms Z f1 J1 Al1) else _) = _
    rw [if_pos c0, k1, e, if_pos c0]
  | none =>
    obtain ⟨f2, J2, Al2, fr2, e2, b1, b2, b3, b4, b5, kw⟩ := m119 (L := L) (d := d + 3) (z := Z) (bs := tp) ht (f := f1) (A := J1) (Al := Al1) (by rw [ff 1 (by omega) (by omega)]; exact h1) (by rw [aa 137 (by omega) (by omega)]; exact h137) hc
    obtain ⟨T, hT', wf, inv, t10, t0, _⟩ := cread_ok hc
    obtain ⟨w1, w2, w3, w4, w6, w7, w5, w8, w9, w9', w10, wo, w11, w12, w13, w14, w15⟩ := wf
    obtain ⟨v1, v2, v3, v4, _⟩ := inv
    obtain ⟨kb1, kb2, kb3⟩ := kread_bit tp
    obtain ⟨f3, J3, Al3, fr3, e3, d1, d2, d3, d4, d5, d6, d7⟩ := m121 (L := L) (d := d + 2) (z := Z) (K := kread tp) (A := J2) (kread_ch tp) (by have := kw.2.2.2.2.2.2.1; omega) kw.2.2.2.1 kb2 (by rw [v1]; exact w1) (fun k hk => by rw [v1] at hk; exact ⟨(v3 k hk).1, (v3 k hk).2.1⟩) (fun k hk => by rw [v1] at hk; exact v4 k hk) (f := f2) (Al := Al2) b3 (b1 139 (by omega) (by omega)) (b1 143 (by omega) (by omega))
    have f3o : ∀ k, k ∉ [14, 19, 48, 3, 4, 10] → f3 k = f1 k := fun k hk => by
      rw [fr3.2.1 k (by simp at hk ⊢; omega), fr2.2.1 k (by simp at hk ⊢; omega)]
    have a3o : ∀ a, a < 138 ∨ 151 < a → Al3 a = Al1 a := fun a ha => by
      rw [fr3.2.2 a (by simp; omega), fr2.2.2 a (by simp; omega)]
    obtain ⟨J4, Al4, k1, k2, k3, k4⟩ := ms_forgetL (z := Z) (f := f3) [137] J3 Al3
    have gT : MTB tp f3 Al4 := by
      refine MTB.fr (f := f3) (Al := Al3) ⟨fun a a1 a2 => ?_, ?_, ?_, ?_, ?_, d1, d2, d3, d4, d5, d6, d7⟩ (fun _ _ => rfl) (fun a a1 a2 => k4 a (by simp; omega))
      · rw [fr3.2.2 a (by simp; omega)]; exact b1 a a1 a2
      · rw [fr3.2.1 3 (by simp)]; exact b2
      · rw [fr3.2.1 4 (by simp)]; exact b3
      · rw [fr3.2.1 10 (by simp)]; exact b4
      · rw [fr3.2.2 138 (by simp)]; exact b5
    obtain ⟨F', J', Al', e, mi⟩ := fin tp f3 J4 Al4 (-1) ht hc (by rw [k2, fr3.1, fr2.1, fr1.1, j0]) gT (hQ1.fr (f3o 21 (by simp)) (fun a a1 a2 => by rw [k4 a (by simp; omega), a3o a (by omega)])) (hN1.fr (f3o 30 (by simp)) (fun a a1 a2 => by rw [k4 a (by simp; omega), a3o a (by omega)])) (by rw [f3o 36 (by simp), ff 36 (by omega) (by omega)]; exact h36) (by rw [f3o 43 (by simp)]; exact f43) (by rw [f3o 47 (by simp), ff 47 (by omega) (by omega)]; exact h47) (by rw [k4 170 (by simp), a3o 170 (by omega), aa 170 (by omega) (by omega)]; exact h170) (by rw [k4 171 (by simp), a3o 171 (by omega), aa 171 (by omega) (by omega)]; exact h171) (by rw [k4 172 (by simp), a3o 172 (by omega), aa 172 (by omega) (by omega)]; exact h172) (k3 137 (by simp))
    refine ⟨ms Z F' J' Al', SC_ms Z _ _ _, (fun p q => by cases q), fun _ => ⟨?_, by rw [ms_f]; exact mi⟩⟩
    rw [start, hc]
    show (if nI 0 ≤ (-1 : Int32) then _ else xruns (O2 L) (zden L (d + 6)) 122 14 [.ref 136, .int (-1)] [] (ms Z f1 J1 Al1)) = _
    rw [if_neg (by decide), B122_14, e2, Option.bind_some, e3, Option.bind_some, k1, e, if_neg (by decide)]
end
