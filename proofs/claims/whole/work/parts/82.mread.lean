/-! THE REFERENCE'S QUERY: the whole reading -/
def finS : DD → Sem
  | [(os, cs)] => orS (os ++ [anS cs])
  | _ => lfS 0
def QD (bs : List Nat) (Q : CT) (D : DD) (f : Nat → Int32) (Al : Nat → List Nat) : Prop := RQ bs Q f Al ∧ f 51 = nI (Q.1 4).length ∧ Al 175 = Q.1 4 ∧ Al 176 = Q.1 5 ∧ Al 177 = Q.1 6 ∧ ∃ K A B dT, MT (Q.1 4).length K A B dT [finS D] ∧ f 59 = nI K.length ∧ Al 181 = K ∧ Al 182 = A ∧ Al 183 = B ∧ K.length ≤ 10 * (Q.1 4).length
theorem MV.skip {bs : List Nat} {Q : CT} {fr : FR} {D : DD} {f : Nat → Int32} {Al : Nat → List Nat} {p : Nat} (h : MV bs Q fr D f Al) : MV bs (qAt Q p) fr D (va_up f 67 (nI p)) Al := by
  obtain ⟨hR, h51, h175, h176, h177, h69, hD, hN, K, A, B, dT, hT0, hT1⟩ := h
  have fr0 : FrM [51, 55, 67, 68, 69] [175, 176, 177, 178, 179, 180] f (fun _ _ => (0 : Int32)) Al (va_up f 67 (nI p)) (fun _ _ => (0 : Int32)) Al := FrM.f (by simp)
  refine ⟨hR.at p, by rw [vn _ _ (by omega), h51]; rfl, h175, h176, h177, by rw [vn _ _ (by omega), h69]; rfl, hD, hN, K, A, B, dT, fun q => ?_, fun q => ?_⟩
  · obtain ⟨os, cs, x, D', e1, e2, e3, e4⟩ := hT0 q
    exact ⟨os, cs, x, D', e1, e2, e3.fr fr0, e4⟩
  · obtain ⟨e1, e2, e3⟩ := hT1 q
    exact ⟨e1, e2.fr fr0, e3⟩
theorem qSkip_2 {qb : List Nat} {Q : CT} : qb[(qSkip qb Q).2 10]? ≠ some 32 := by
  unfold qSkip
  rw [qAt_10]
  exact brun_end qb qb.length (Q.2 10) (by omega)
theorem qgo_skip {qb : List Nat} {Q : CT} {fr : FR} {D : DD} {r : Nat} (hr : 1 ≤ r) : qgo qb r (qSkip qb Q) fr D = qgo qb r Q fr D := by
  obtain ⟨r, rfl⟩ : ∃ k, r = k + 1 := ⟨r - 1, by omega⟩
  have e : qSkip qb (qSkip qb Q) = qSkip qb Q := qSkip_0 qSkip_2
  unfold qgo
  rw [e]
  rfl
theorem qStep_le {qb : List Nat} {Q : CT} {fr : FR} {c : Nat} (w : WfQ qb Q fr) (hc : qb[Q.2 10]? = some c) (ht : (qStep qb Q fr c).1 = false) : (qStep qb Q fr c).2.1.2 10 ≤ qb.length := by
  have o2 := w.1.2.1
  unfold qStep at ht ⊢
  by_cases e : Q.2 13 = 0
  · rw [if_pos e] at ht ⊢
    cases fr with
    | nil => exact o2
    | cons v fr1 =>
      unfold qJoint at ht ⊢
      simp only at ht ⊢
      by_cases e1 : c = 41
      · rw [if_pos e1] at ht ⊢
        by_cases e2 : fr1.length = 0
        · rw [if_pos e2]; exact o2
        · rw [if_neg e2] at ht; cases ht
      · rw [if_neg e1] at ht ⊢
        by_cases e2 : c = 124
        · rw [if_pos e2] at ht; cases ht
        · rw [if_neg e2] at ht ⊢
          by_cases e3 : c = 38
          · rw [if_pos e3] at ht; cases ht
          · rw [if_neg e3]; exact o2
  · rw [if_neg e] at ht ⊢
    unfold qOne at ht ⊢
    by_cases e1 : c = 33 ∨ c = 40
    · rw [if_pos e1] at ht ⊢
      by_cases e2 : Q.2 12 < 8
      · rw [if_pos e2] at ht; cases ht
      · rw [if_neg e2]; exact o2
    · rw [if_neg e1] at ht ⊢
      by_cases e2 : 12 ≤ (Q.1 6).length
      · rw [if_pos e2]; exact o2
      · rw [if_neg e2] at ht ⊢
        by_cases e3 : (qLeaf qb Q c).1 = true
        · rw [if_pos e3] at ht; cases ht
        · rw [if_neg e3]
          exact (qLeaf_ok w.1 hc).1.2.1
section
variable {L d : Nat} {z : zS} {bs : List Nat}
theorem m133_bad {f : Nat → Int32} {J : Nat → Nat → Int32} {Al : Nat → List Nat} {p : Nat} (hp : p ≤ 1000) (h : f 68 = nI p) : xruns (O2 L) (zden L (d + 6)) 133 44 [.ref 136] [] (ms z f J Al) = some (0, ms z f J Al) := by
  rw [B133_44, M68r, Option.bind_some, h, iL (by omega) (by omega), if_pos (Nat.zero_le _), B133_101, M68r, Option.bind_some, h, iL (by omega) (by omega), if_pos (Nat.zero_le _), B133_128]
theorem m133_loop (hb : BB bs) : ∀ (r : Nat) (Q : CT) (fr : FR) (D : DD) (f : Nat → Int32) (J : Nat → Nat → Int32) (Al : Nat → List Nat), WfQ (bs.map lo) Q fr → MV bs Q fr D f Al → (bs.map lo)[Q.2 10]? ≠ some 32 → bs.length < Q.2 10 + r →
    ∃ f' J' Al', FrM FQ AQ f J Al f' J' Al' ∧ xruns (O2 L) (zden L (d + 6)) 133 44 [.ref 136] [] (ms z f J Al) = some (0, ms z f' J' Al') ∧ (∀ p, (qgo (bs.map lo) r Q fr D).1 = some p → f' 68 = nI p ∧ p ≤ bs.length) ∧ ((qgo (bs.map lo) r Q fr D).1 = none → QD bs (qgo (bs.map lo) r Q fr D).2.1 (qgo (bs.map lo) r Q fr D).2.2.2 f' Al') := by
  have hb2 := hb.2
  have lm : (bs.map lo).length = bs.length := List.length_map _
  intro r
  induction r with
  | zero =>
    intro Q fr D f J Al w hV h32 hr
    have := w.1.2.1
    omega
  | succ r ih =>
    intro Q fr D f J Al w hV h32 hr
    have o2 := w.1.2.1
    have h13 : Q.2 13 ≤ 1 := w.2.2.2.2.2.2.2.2.2.2.2.1
    have sk : qSkip (bs.map lo) Q = Q := qSkip_0 h32
    have hR := hV.1
    have h69 := hV.2.2.2.2.2.1
    have h8 := hR.2.2.2.2.2.2.2
    have e51 : xruns (O2 L) (zden L (d + 6)) 133 44 [.ref 136] [] (ms z f J Al) = xruns (O2 L) (zden L (d + 6)) 133 51 [.ref 136] [] (ms z f J Al) := by
      rw [B133_44, M68r, Option.bind_some, h8, if_neg (by decide)]
    by_cases he : bs.length ≤ Q.2 10
    · have eg : qgo (bs.map lo) (r + 1) Q fr D = ((if Q.2 13 = 0 ∧ fr.length = 1 then none else some bs.length), Q, fr, D) := by
        rw [qgo, sk, if_pos (by omega), lm]
      rw [eg, e51]
      by_cases w0 : Q.2 13 = 0
      · obtain ⟨ok, a5, a6, a4, a1, a8, a9, ch, a11, a12, a12', a13, a13', b7, b7'⟩ := w
        obtain ⟨hR, h51, h175, h176, h177, h69, hD, hN, K, A, B, dT, hT0, hT1⟩ := hV
        obtain ⟨os, cs, x, D', rfl, hM, hRM, hB⟩ := hT0 w0
        obtain ⟨j, i, fr1, rfl, k1, k2, k3, k4, k5, k6⟩ := dn_par ch (a13' w0)
        rw [wOps_par] at hRM hB
        rw [wSem_par] at hM
        have hD : D'.length = fr1.length := by simpa using hD
        have hx : Nrm x := hN (os, cs ++ [x]) (by simp) x (Or.inr (by simp))
        obtain ⟨f1, J1, Al1, K1, A1, B1, dT1, fr1', e1, M1, R1, c1⟩ := m127o (L := L) (d := d + 4) (z := z) (J := J) hx hM hRM (by omega)
        have q1 : RQ bs Q f1 Al1 := hR.fr (fr1'.mono (by simp) (by simp))
        have e108 : xruns (O2 L) (zden L (d + 6)) 133 51 [.ref 136] [] (ms z f J Al) = if (wR fr1 D').length ≤ 0 then xruns (O2 L) (zden L (d + 6)) 133 128 [.ref 136] [] (ms z f1 J1 Al1) else xruns (O2 L) (zden L (d + 6)) 133 120 [.ref 136] [] (ms z f1 J1 Al1) := by
          rw [B133_51, M69r, Option.bind_some, h69, w0, if_pos rfl, B133_58, M67r, Option.bind_some, M1r, Option.bind_some, hR.1, hR.2.2.1, iL (by omega) (by omega), if_pos he, B133_101, M68r, Option.bind_some, h8, if_neg (by decide), B133_108, e1, Option.bind_some, M64r, Option.bind_some, R1.2.2.1, iL (by omega) (by omega)]
        by_cases f0 : fr1.length = 0
        · have fz : fr1 = [] := List.eq_nil_of_length_eq_zero f0
          subst fz
          have Dz : D' = [] := List.eq_nil_of_length_eq_zero hD
          subst Dz
          rw [if_pos ⟨w0, rfl⟩]
          refine ⟨f1, J1, Al1, fr1'.mono (by simp) (by simp), by rw [e108, if_pos (by exact Nat.le_refl _), B133_128], (fun p q => by cases q), fun _ => ?_⟩
          refine ⟨q1, by rw [fr1'.2.1 51 (by simp), h51], by rw [fr1'.2.2 175 (by simp), h175], by rw [fr1'.2.2 176 (by simp), h176], by rw [fr1'.2.2 177 (by simp), h177], K1, A1, B1, dT1, M1, R1.1, R1.2.2.2.1, R1.2.2.2.2.1, R1.2.2.2.2.2.1, by show K1.length ≤ 10 * (Q.1 4).length; omega⟩
        · rw [if_neg (fun q => by have := q.2; rw [List.length_cons] at this; omega)]
          refine ⟨va_up f1 68 (nI bs.length), J1, Al1, (fr1'.mono (by simp) (by simp)).trans (FrM.f (by simp)), ?_, fun p q => ?_, fun q => by cases q⟩
          · have wl : ¬ (wR fr1 D').length ≤ 0 := by
              cases fr1 with
              | nil => exact absurd rfl f0
              | cons v fr2 => unfold wR; rw [List.length_cons]; omega
            rw [e108, if_neg wl, B133_120, M1r, Option.bind_some, q1.1, M68p, Option.bind_some, B133_128]
          · cases q
            exact ⟨vs _ _ _, Nat.le_refl _⟩
      · rw [if_neg (fun q => w0 q.1)]
        obtain ⟨f1, J1, Al1, fr1, e1, y1, y2⟩ := m131 (L := L) (d := d) (z := z) (J := J) hb w hV (by omega)
        have bn : bs[Q.2 10]? = none := List.getElem?_eq_none he
        have y1 := y1 bn
        refine ⟨f1, J1, Al1, fr1, ?_, fun p q => ?_, fun q => by cases q⟩
        · rw [B133_51, M69r, Option.bind_some, h69, iE (by omega) (by omega), if_neg w0, B133_69, M69r, Option.bind_some, h69, iE (by omega) (by omega), if_neg w0, B133_76, e1, Option.bind_some, B133_87, M68r, Option.bind_some, y1, iL (by omega) (by omega), if_pos (Nat.zero_le _), m133_bad (by omega) y1]
        · cases q
          exact ⟨by rw [y1]; congr 1; omega, Nat.le_refl _⟩
    · have hlt : Q.2 10 < (bs.map lo).length := by omega
      have hc : (bs.map lo)[Q.2 10]? = some ((bs.map lo).getD (Q.2 10) 0) := by rw [gD hlt]; exact List.getElem?_eq_getElem hlt
      have eg : qgo (bs.map lo) (r + 1) Q fr D = if (qStep (bs.map lo) Q fr ((bs.map lo).getD (Q.2 10) 0)).1 = true then qgo (bs.map lo) r (qStep (bs.map lo) Q fr ((bs.map lo).getD (Q.2 10) 0)).2.1 (qStep (bs.map lo) Q fr ((bs.map lo).getD (Q.2 10) 0)).2.2 (dStep Q fr D ((bs.map lo).getD (Q.2 10) 0)) else (some ((qStep (bs.map lo) Q fr ((bs.map lo).getD (Q.2 10) 0)).2.1.2 10), (qStep (bs.map lo) Q fr ((bs.map lo).getD (Q.2 10) 0)).2.1, (qStep (bs.map lo) Q fr ((bs.map lo).getD (Q.2 10) 0)).2.2, D) := by
        rw [qgo, sk, if_neg (by omega)]
      rw [eg]
      generalize (bs.map lo).getD (Q.2 10) 0 = c at hc
      -- one step, to 87
      have step : ∃ f1 J1 Al1, FrM FQ AQ f J Al f1 J1 Al1 ∧ xruns (O2 L) (zden L (d + 6)) 133 51 [.ref 136] [] (ms z f J Al) = xruns (O2 L) (zden L (d + 6)) 133 87 [.ref 136] [] (ms z f1 J1 Al1) ∧ ((qStep (bs.map lo) Q fr c).1 = true → MV bs (qStep (bs.map lo) Q fr c).2.1 (qStep (bs.map lo) Q fr c).2.2 (dStep Q fr D c) f1 Al1) ∧ ((qStep (bs.map lo) Q fr c).1 = false → f1 68 = nI ((qStep (bs.map lo) Q fr c).2.1.2 10)) := by
        unfold qStep
        by_cases w0 : Q.2 13 = 0
        · rw [if_pos w0]
          obtain ⟨f1, J1, Al1, fr1, e1, y1, y2⟩ := m132 (L := L) (d := d) (z := z) (J := J) hb w hV w0 hc
          refine ⟨f1, J1, Al1, fr1, ?_, y1, y2⟩
          rw [B133_51, M69r, Option.bind_some, h69, w0, if_pos rfl, B133_58, M67r, Option.bind_some, M1r, Option.bind_some, hR.1, hR.2.2.1, iL (by omega) (by omega), if_neg he, B133_69, M69r, Option.bind_some, h69, w0, if_pos rfl, B133_83, e1, Option.bind_some]
        · rw [if_neg w0]
          obtain ⟨f1, J1, Al1, fr1, e1, y1, y2⟩ := m131 (L := L) (d := d) (z := z) (J := J) hb w hV (by omega)
          refine ⟨f1, J1, Al1, fr1, ?_, (y2 c hc).1, (y2 c hc).2⟩
          rw [B133_51, M69r, Option.bind_some, h69, iE (by omega) (by omega), if_neg w0, B133_69, M69r, Option.bind_some, h69, iE (by omega) (by omega), if_neg w0, B133_76, e1, Option.bind_some]
      obtain ⟨f1, J1, Al1, fr1, e1, y1, y2⟩ := step
      by_cases T : (qStep (bs.map lo) Q fr c).1 = true
      · rw [if_pos T]
        obtain ⟨w2, hl⟩ := qStep_wf w hc T
        have V1 := y1 T
        have o3 := w2.1.2.1
        obtain ⟨k1, k2⟩ := m124q (L := L) (d := d + 4) (z := z) (A := J1) V1.1 hb (by omega)
        have V2 : MV bs (qSkip (bs.map lo) (qStep (bs.map lo) Q fr c).2.1) (qStep (bs.map lo) Q fr c).2.2 (dStep Q fr D c) (va_up f1 67 (nI ((qSkip (bs.map lo) (qStep (bs.map lo) Q fr c).2.1).2 10))) Al1 := by
          have := V1.skip (p := (qSkip (bs.map lo) (qStep (bs.map lo) Q fr c).2.1).2 10)
          have e : qAt (qStep (bs.map lo) Q fr c).2.1 ((qSkip (bs.map lo) (qStep (bs.map lo) Q fr c).2.1).2 10) = qSkip (bs.map lo) (qStep (bs.map lo) Q fr c).2.1 := by
            unfold qSkip
            rw [qAt_10]
          rw [e] at this
          exact this
        have al : (qStep (bs.map lo) Q fr c).2.1.2 10 ≤ (qSkip (bs.map lo) (qStep (bs.map lo) Q fr c).2.1).2 10 := by
          unfold qSkip
          rw [qAt_10]; omega
        obtain ⟨f3, J3, Al3, fr3, e3, x1, x2⟩ := ih _ _ _ _ J1 Al1 (qSkip_wf w2) V2 qSkip_2 (by omega)
        rw [qgo_skip (by omega)] at x1 x2
        refine ⟨f3, J3, Al3, (fr1.trans (FrM.f (by simp))).trans fr3, ?_, x1, x2⟩
        rw [e51, e1, B133_87, M68r, Option.bind_some, V1.1.2.2.2.2.2.2.2, if_neg (by decide), B133_94, k1, Option.bind_some]
        exact e3
      · have T' : (qStep (bs.map lo) Q fr c).1 = false := by simpa using T
        have le := qStep_le w hc T'
        rw [if_neg T]
        refine ⟨f1, J1, Al1, fr1, ?_, fun p q => ?_, fun q => by cases q⟩
        · rw [e51, e1, B133_87, M68r, Option.bind_some, y2 T', iL (by omega) (by omega), if_pos (Nat.zero_le _), m133_bad (by omega) (y2 T')]
        · cases q
          exact ⟨y2 T', by omega⟩
theorem ms_forgetL {f : Nat → Int32} : ∀ (as : List Nat) (J : Nat → Nat → Int32) (Al : Nat → List Nat), ∃ J' Al', ms z f J Al = ms z f J' Al' ∧ J' 0 = J 0 ∧ (∀ a, a ∈ as → Al' a = []) ∧ (∀ a, a ∉ as → Al' a = Al a) := by
  intro as
  induction as with
  | nil => intro J Al; exact ⟨J, Al, rfl, rfl, (fun a h => by cases h), fun a _ => rfl⟩
  | cons b as ih =>
    intro J Al
    obtain ⟨J1, e1, e2⟩ := ms_forget (z := z) (f := f) (A := J) (Al := Al) b
    obtain ⟨J2, Al2, g1, g2, g3, g4⟩ := ih J1 (va_up Al b [])
    refine ⟨J2, Al2, e1.trans g1, g2.trans e2, fun a h => ?_, fun a h => ?_⟩
    · by_cases q : a ∈ as
      · exact g3 a q
      · rcases List.mem_cons.mp h with e | e
        · rw [g4 a q, e, vs]
        · exact absurd e q
    · rw [List.mem_cons, not_or] at h
      rw [g4 a h.2, vn _ _ h.1]
theorem m133 (hb : BB bs) {f : Nat → Int32} {J : Nat → Nat → Int32} {Al : Nat → List Nat} (h1 : f 1 = nI bs.length) (h137 : Al 137 = bs) :
    ∃ f' J' Al', FrM FQ AQ f J Al f' J' Al' ∧ zden L (d + 7) 133 [.ref 136] (ms z f J Al) = some (0, ms z f' J' Al') ∧ (∀ p, (qread bs).1 = some p → f' 68 = nI p ∧ p ≤ bs.length) ∧ ((qread bs).1 = none → QD bs (qread bs).2.1 (qread bs).2.2.2 f' Al') := by
  have lm : (bs.map lo).length = bs.length := List.length_map _
  generalize hf : va_up (va_up (va_up (va_up (va_up (va_up (va_up (va_up f 51 (nI 0)) 55 (nI 0)) 59 (nI 0)) 64 (nI 0)) 66 (nI 0)) 67 (nI 0)) 68 (-1)) 69 (nI 1) = f0
  have fr0 : FrM FQ AQ f J Al f0 J Al := by
    rw [← hf]
    exact (((((((FrM.f (by simp)).trans (FrM.f (by simp))).trans (FrM.f (by simp))).trans (FrM.f (by simp))).trans (FrM.f (by simp))).trans (FrM.f (by simp))).trans (FrM.f (by simp))).trans (FrM.f (by simp))
  have v : f0 51 = nI 0 ∧ f0 55 = nI 0 ∧ f0 59 = nI 0 ∧ f0 64 = nI 0 ∧ f0 66 = nI 0 ∧ f0 67 = nI 0 ∧ f0 68 = -1 ∧ f0 69 = nI 1 ∧ f0 1 = nI bs.length := by
    rw [← hf]
    refine ⟨?_, ?_, ?_, ?_, ?_, ?_, ?_, ?_, ?_⟩ <;> simp (disch := omega) only [vn, vs]
    exact h1
  obtain ⟨v51, v55, v59, v64, v66, v67, v68, v69, v1⟩ := v
  obtain ⟨J1, Al1, g1, g2, g3, g4⟩ := ms_forgetL (z := z) (f := f0) AQ J Al
  have fr1 : FrM FQ AQ f J Al f0 J1 Al1 := ⟨g2.trans fr0.1, fr0.2.1, g4⟩
  have V0 : MV bs (Q0 (bs.map lo)) [(1, 1)] [([], [])] f0 Al1 := by
    refine ⟨⟨v1, by rw [g4 137 (by simp), h137], v67, v55, g3 178 (by simp), g3 179 (by simp), g3 180 (by simp), v68⟩, v51, g3 175 (by simp), g3 176 (by simp), g3 177 (by simp), v69, rfl, ?_, [], [], [], [], fun q => absurd (show (1 : Nat) = 0 from q) (by omega), fun _ => ⟨⟨[], rfl, rfl, rfl, (fun k hk => by cases hk), Nat.le_refl _, rfl, fun u dT' e => by cases e⟩, ⟨v59, v66, v64, g3 181 (by simp), g3 182 (by simp), g3 183 (by simp), g3 185 (by simp), g3 184 (by simp)⟩, Nat.zero_le _⟩⟩
    intro p hp s hs
    rw [List.mem_singleton.mp hp] at hs
    rcases hs with hs | hs <;> cases hs
  obtain ⟨k1, k2⟩ := m124q (L := L) (d := d + 4) (z := z) (A := J1) V0.1 hb (Nat.zero_le _)
  have V1 : MV bs (qSkip (bs.map lo) (Q0 (bs.map lo))) [(1, 1)] [([], [])] (va_up f0 67 (nI ((qSkip (bs.map lo) (Q0 (bs.map lo))).2 10))) Al1 := by
    have := V0.skip (p := (qSkip (bs.map lo) (Q0 (bs.map lo))).2 10)
    have e : qAt (Q0 (bs.map lo)) ((qSkip (bs.map lo) (Q0 (bs.map lo))).2 10) = qSkip (bs.map lo) (Q0 (bs.map lo)) := by
      unfold qSkip
      rw [qAt_10]
    rw [e] at this
    exact this
  obtain ⟨f3, J3, Al3, fr3, e3, x1, x2⟩ := m133_loop (L := L) (d := d) (z := z) hb (bs.length + 1) _ _ _ _ J1 Al1 (qSkip_wf (Q0_wf (bs.map lo))) V1 qSkip_2 (by omega)
  rw [qgo_skip (by omega)] at x1 x2
  refine ⟨f3, J3, Al3, (fr1.trans (FrM.f (by simp))).trans fr3, ?_, x1, x2⟩
  rw [N133 _ ob136, B133_0, M51p, Option.bind_some, M55p, Option.bind_some, M59p, Option.bind_some, M64p, Option.bind_some, M66p, Option.bind_some, M67p, Option.bind_some, M68p, Option.bind_some, if_pos (Or.inr rfl), M69p, Option.bind_some, hf, g1, k1, Option.bind_some]
  exact e3
end
