/-! EVALUATION: work, in the reference -/
/-- the nodes of the reference -/
def MNX (Q : CT) (S : Option Sem) (f : Nat → Int32) (Al : Nat → List Nat) : Prop := (S = none → f 30 = nI 0) ∧ ∀ s, S = some s → ∃ TS : List Sem, f 30 = nI (Al 159).length ∧ 1 ≤ (Al 159).length ∧ (Al 159).length ≤ 200 ∧ TS.length = (Al 159).length ∧ (Al 160).length = (Al 159).length ∧ (Al 161).length = (Al 159).length ∧ (∀ k, k < (Al 159).length → meq (Q.1 6).length (Al 159) (Al 160) (Al 161) TS k) ∧ TS[(Al 159).length - 1]? = some s
theorem meq_nrm {N : Nat} {K A B : List Nat} {TS : List Sem} (hl : TS.length = K.length) (h : ∀ k, k < K.length → meq N K A B TS k) : ∀ b k s, k ≤ b → k < K.length → TS[k]? = some s → Nrm s := by
  intro b
  induction b with
  | zero =>
    intro k s hb hk hs
    have k0 : k = 0 := by omega
    subst k0
    rcases h 0 hk with ⟨h1, u, h2, h3, h4⟩ | ⟨h1, u, w, h2, h3, h4, h5⟩ | ⟨h1, u, v, w, y, h2, h3, h4, h5, h6, h7, h8⟩ | ⟨h1, u, v, w, y, h2, h3, h4, h5, h6, h7, h8⟩
    · rw [hs] at h4; cases h4; exact Nrm.lf _
    · omega
    · omega
    · omega
  | succ b ih =>
    intro k s hb hk hs
    rcases h k hk with ⟨h1, u, h2, h3, h4⟩ | ⟨h1, u, w, h2, h3, h4, h5⟩ | ⟨h1, u, v, w, y, h2, h3, h4, h5, h6, h7, h8⟩ | ⟨h1, u, v, w, y, h2, h3, h4, h5, h6, h7, h8⟩
    · rw [hs] at h4; cases h4; exact Nrm.lf _
    · rw [hs] at h5; cases h5; exact Nrm.nt _
    · rw [hs] at h8; cases h8; exact Nrm.a _
    · rw [hs] at h8; cases h8
      refine Nrm.o (fun s hs => ?_)
      rcases List.mem_cons.mp hs with e | e
      · rw [e]; exact ih u w (by omega) (by omega) h6
      · rw [List.mem_singleton.mp e]; exact ih v y (by omega) (by omega) h7
section
variable {L d : Nat} {z : zS} {T Q : CT} {lk n : Nat} {f : Nat → Int32}
/-- the leaves: where their ways begin, how many there are -/
theorem m141_leaves {J : Nat → Nat → Int32} {Al : Nat → List Nat} (hX : MX T Q lk n f Al) (v2 : Value) :
    ∃ J' Al' v2', FrM [] [164, 165, 166, 167, 186, 187] f J Al f J' Al' ∧ xruns (O2 L) (zden L (d + 5)) 141 2 [.ref 136, .int (nI 0), v2] [] (ms z f J Al) = xruns (O2 L) (zden L (d + 5)) 141 128 [.ref 136, .int (nI (Q.1 6).length), v2'] [] (ms z f J' Al') ∧ Al' 164 = (List.range (Q.1 6).length).map (fun l => bN (vC T Q lk l)) ∧ Al' 165 = List.replicate (Q.1 6).length 0 ∧ Al' 166 = (List.range (Q.1 6).length).map (fun l => cntW T Q l lk lk) ∧ CNT T Q lk (Q.1 6).length (Al' 167) := by
  have hX' := hX
  obtain ⟨hx, hq, h36, n300, hlk, tl, ql, tw, qf, n12, hm, hp⟩ := hX'
  have W300 := hx.2.1
  obtain ⟨J1, Al1, k1, k2, k3, k4⟩ := ms_forgetL (z := z) (f := f) [164, 165, 166, 167, 186, 187] J Al
  have XA : ∀ (J2 : Nat → Nat → Int32) (Al2 : Nat → List Nat), (∀ a, a ∉ [164, 165, 166, 167, 186, 187] → Al2 a = Al a) → MX T Q lk n f Al2 := fun J2 Al2 h => hX.fr (J := J2) (J' := J2) ⟨rfl, fun _ _ => rfl, fun a ha => h a (fun q => ha (by simp at q ⊢; omega))⟩
  have cw : ∀ l w, cntW T Q l lk (min w lk) ≤ 300 := fun l w => by
    have := cntW_le T Q l lk (min w lk)
    omega
  have words : ∀ (r w l : Nat) (J2 : Nat → Nat → Int32) (Al2 : Nat → List Nat), l < (Q.1 6).length → w + r = 300 → J2 0 = J 0 → (∀ a, a ∉ [164, 165, 166, 167, 186, 187] → Al2 a = Al a) → Al2 166 = (List.range l).map (fun l => cntW T Q l lk lk) ++ [cntW T Q l lk (min w lk)] → (Al2 167).length = 300 * l + w → (∀ k v, k < l → v < 300 → (Al2 167).getD (300 * k + v) 0 = bN (decide (v < lk) && way T Q k lk v)) → (∀ v, v < w → (Al2 167).getD (300 * l + v) 0 = bN (decide (v < lk) && way T Q l lk v)) →
      ∃ J3 Al3, J3 0 = J 0 ∧ (∀ a, a ∉ [164, 165, 166, 167, 186, 187] → Al3 a = Al a) ∧ Al3 164 = Al2 164 ∧ Al3 165 = Al2 165 ∧ xruns (O2 L) (zden L (d + 5)) 141 19 [.ref 136, .int (nI l), .int (nI w)] [] (ms z f J2 Al2) = xruns (O2 L) (zden L (d + 5)) 141 95 [.ref 136, .int (nI l), .int (nI 300)] [] (ms z f J3 Al3) ∧ Al3 166 = (List.range (l + 1)).map (fun l => cntW T Q l lk lk) ∧ CNT T Q lk (l + 1) (Al3 167) := by
    intro r
    induction r with
    | zero =>
      intro w l J2 Al2 hl hw hJ hA h6 h7 h7a h7b
      have : w = 300 := by omega
      subst this
      refine ⟨J2, Al2, hJ, hA, rfl, rfl, ?_, ?_, ?_⟩
      · rw [B141_19, iL (by omega) (by omega), if_pos (Nat.le_refl _)]
      · rw [h6, show min 300 lk = lk by omega]
        exact mapS (fun l => cntW T Q l lk lk) l
      · refine ⟨by omega, fun k v hk hv => ?_⟩
        by_cases e : k = l
        · rw [e]; exact h7b v hv
        · exact h7a k v (by omega) hv
    | succ r ih =>
      intro w l J2 Al2 hl hw hJ hA h6 h7 h7a h7b
      have wl : w < 300 := by omega
      have l6 : (Al2 166).length = l + 1 := by rw [h6, List.length_append, List.length_map, List.length_range]; rfl
      have g6 : (Al2 166).getD l 0 = cntW T Q l lk (min w lk) := by
        rw [h6]
        simp [List.getD]
      -- the cell is written, the count goes on
      have cell : ∀ (b : Bool) (J3 : Nat → Nat → Int32) (Al3 : Nat → List Nat), b = (decide (w < lk) && way T Q l lk w) → J3 0 = J 0 → (∀ a, a ∉ [186, 187] → Al3 a = Al2 a) → ∃ J4 Al4, J4 0 = J 0 ∧ (∀ a, a ∉ [164, 165, 166, 167, 186, 187] → Al4 a = Al a) ∧ Al4 164 = Al2 164 ∧ Al4 165 = Al2 165 ∧ xruns (O2 L) (zden L (d + 5)) 141 59 [.ref 136, .int (nI l), .int (nI w)] [.int (nI (bN b)), .int (nI (300 * l + w)), .ref 167] (ms z f J3 Al3) = xruns (O2 L) (zden L (d + 5)) 141 95 [.ref 136, .int (nI l), .int (nI 300)] [] (ms z f J4 Al4) ∧ Al4 166 = (List.range (l + 1)).map (fun l => cntW T Q l lk lk) ∧ CNT T Q lk (l + 1) (Al4 167) := by
        intro b J3 Al3 hb hJ3 hA3
        have a7 : Al3 167 = Al2 167 := hA3 167 (by simp)
        have a6 : Al3 166 = Al2 166 := hA3 166 (by simp)
        have b01 : nI (bN b) = nI 0 ∨ nI (bN b) = nI 1 := by cases b; exact Or.inl rfl; exact Or.inr rfl
        have bb := bN_le b
        have cnt1 : cntW T Q l lk (min (w + 1) lk) = cntW T Q l lk (min w lk) + bN b := by
          by_cases c : w < lk
          · rw [show min (w + 1) lk = w + 1 by omega, show min w lk = w by omega, cntW_succ, hb, decide_eq_true c, Bool.true_and]
            rfl
          · rw [show min (w + 1) lk = lk by omega, show min w lk = lk by omega, hb, decide_eq_false c, Bool.false_and]
            rfl
        have hA4 : ∀ a, a ∉ [164, 165, 166, 167, 186, 187] → va_up (va_up Al3 167 (Al3 167 ++ [bN b])) 166 ((Al3 166).set l (cntW T Q l lk (min (w + 1) lk))) a = Al a := fun a ha => by
          have h1 : a ≠ 166 := fun q => ha (by simp [q])
          have h2 : a ≠ 167 := fun q => ha (by simp [q])
          rw [vn _ _ h1, vn _ _ h2, hA3 a (fun q => ha (by simp at q ⊢; omega)), hA a ha]
        have ap : ∀ i, i < (Al2 167).length → (Al2 167 ++ [bN b]).getD i 0 = (Al2 167).getD i 0 := fun i hi => by
          simp [List.getD, List.getElem?_append, hi]
        obtain ⟨J4, Al4, q1, q2, q3, q3', q4, q5, q6⟩ := ih (w + 1) l J3 (va_up (va_up Al3 167 (Al3 167 ++ [bN b])) 166 ((Al3 166).set l (cntW T Q l lk (min (w + 1) lk)))) hl (by omega) hJ3 hA4 (by
          rw [vs, a6, h6, List.set_append_right _ _ (by rw [List.length_map, List.length_range]; exact Nat.le_refl _), List.length_map, List.length_range, Nat.sub_self]
          rfl) (by rw [vn _ _ (by omega), vs, List.length_append, a7, h7]; rfl) (fun k v hk hv => by
          rw [vn _ _ (by omega), vs, a7, ap _ (by omega)]
          exact h7a k v hk hv) (fun v hv => by
          rw [vn _ _ (by omega), vs, a7]
          by_cases e : v = w
          · rw [e, ← hb]
            simp [List.getD, ← h7]
          · rw [ap _ (by omega)]
            exact h7b v (by omega))
        refine ⟨J4, Al4, q1, q2, ?_, ?_, ?_, q5, q6⟩
        · rw [q3, vn _ _ (by omega), vn _ _ (by omega)]; exact hA3 164 (by simp)
        · rw [q3', vn _ _ (by omega), vn _ _ (by omega)]; exact hA3 165 (by simp)
        · have gl : (Al3 167 ++ [bN b]).getD (300 * l + w) 0 = bN b := by
            rw [a7]
            simp [List.getD, ← h7]
          have c6 := cw l w
          have e87 : ∀ s3 : Nat, s3 = bN b → xruns (O2 L) (zden L (d + 5)) 141 87 [.ref 136, .int (nI l), .int (nI w)] [.int (nI s3), .int (nI (cntW T Q l lk (min w lk))), .int (nI l), .ref 166] (ms z f J3 (va_up Al3 167 (Al3 167 ++ [bN b]))) = xruns (O2 L) (zden L (d + 5)) 141 95 [.ref 136, .int (nI l), .int (nI 300)] [] (ms z f J4 Al4) := by
            intro s3 hs3
            rw [B141_87, hs3, nI_add, ← cnt1, U166 _ (by rw [vn _ _ (by omega), a6, l6]; omega) (by omega), Option.bind_some, vn _ _ (by omega), nI_add]
            exact q4
          rw [B141_59, if_pos b01, A167 _ (by rw [a7, h7]) (by omega), Option.bind_some, J136_39, Option.bind_some, L166 (by rw [vn _ _ (by omega), a6, l6]; omega) (by omega), Option.bind_some, vn _ _ (by omega), a6, g6, J136_40, Option.bind_some, pk_mul, nI_add, L167 (by rw [vs, List.length_append, a7, h7]; simp) (by omega), Option.bind_some, vs, gl, iE (by omega) (by omega)]
          by_cases c : bN b = 0
          · rw [if_pos c, B141_86]
            exact e87 0 c.symm
          · rw [if_neg c, B141_82]
            exact e87 1 (by omega)
      rw [B141_19, iL (by omega) (by omega), if_neg (by omega), B141_26, J136_40, Option.bind_some, m136 (XA J2 Al2 hA).1.1 h36 W300 n300, Option.bind_some, ← hlk, pk_mul, nI_add, iL (by omega) (by omega)]
      by_cases c : lk ≤ w
      · rw [if_pos c, B141_58]
        exact cell false J2 Al2 (by rw [decide_eq_false (by omega), Bool.false_and]) hJ (fun a _ => rfl)
      · obtain ⟨J3, Al3, fr3, e3, _⟩ := m140 (L := L) (d := d + 1) (z := z) (J := J2) (XA J2 Al2 hA) hl (show w < lk by omega)
        rw [if_neg c, B141_45, e3, Option.bind_some, iB]
        by_cases hy : way T Q l lk w = true
        · rw [if_pos hy, B141_54]
          exact cell true J3 Al3 (by rw [hy, decide_eq_true (show w < lk by omega)]; rfl) (by rw [fr3.1, hJ]) fr3.2.2
        · rw [if_neg hy, B141_58]
          exact cell false J3 Al3 (by rw [show way T Q l lk w = false by simpa using hy, Bool.and_false]) (by rw [fr3.1, hJ]) fr3.2.2
  have leaves : ∀ (r l : Nat) (J2 : Nat → Nat → Int32) (Al2 : Nat → List Nat) (v2 : Value), l + r = (Q.1 6).length → J2 0 = J 0 → (∀ a, a ∉ [164, 165, 166, 167, 186, 187] → Al2 a = Al a) → Al2 164 = (List.range l).map (fun l => bN (vC T Q lk l)) → Al2 165 = List.replicate l 0 → Al2 166 = (List.range l).map (fun l => cntW T Q l lk lk) → CNT T Q lk l (Al2 167) →
      ∃ J3 Al3 v2', J3 0 = J 0 ∧ (∀ a, a ∉ [164, 165, 166, 167, 186, 187] → Al3 a = Al a) ∧ xruns (O2 L) (zden L (d + 5)) 141 2 [.ref 136, .int (nI l), v2] [] (ms z f J2 Al2) = xruns (O2 L) (zden L (d + 5)) 141 128 [.ref 136, .int (nI (Q.1 6).length), v2'] [] (ms z f J3 Al3) ∧ Al3 164 = (List.range (Q.1 6).length).map (fun l => bN (vC T Q lk l)) ∧ Al3 165 = List.replicate (Q.1 6).length 0 ∧ Al3 166 = (List.range (Q.1 6).length).map (fun l => cntW T Q l lk lk) ∧ CNT T Q lk (Q.1 6).length (Al3 167) := by
    intro r
    induction r with
    | zero =>
      intro l J2 Al2 v2 hl hJ hA h4 h5 h6 h7
      have : l = (Q.1 6).length := by omega
      subst this
      refine ⟨J2, Al2, v2, hJ, hA, ?_, h4, h5, h6, h7⟩
      rw [B141_2, M21r, Option.bind_some, hq.1, iL (by omega) (by omega), if_pos (Nat.le_refl _)]
    | succ r ih =>
      intro l J2 Al2 v2 hl hJ hA h4 h5 h6 h7
      have ll : l < (Q.1 6).length := by omega
      have l6 : (Al2 166).length = l := by rw [h6, List.length_map, List.length_range]
      obtain ⟨J3, Al3, q1, q2, q3, q3', q4, q5, q6⟩ := words 300 0 l J2 (va_up Al2 166 (Al2 166 ++ [0])) ll (by omega) hJ (fun a ha => by
        have h1 : a ≠ 166 := fun q => ha (by simp [q])
        rw [vn _ _ h1, hA a ha]) (by rw [vs, h6, Nat.zero_min]; rfl) (by rw [vn _ _ (by omega), h7.1]; rfl) (fun k v hk hv => by rw [vn _ _ (by omega)]; exact h7.2 k v hk hv) (fun v hv => by omega)
      rw [vn _ _ (by omega)] at q3 q3'
      have g6 : (Al3 166).getD l 0 = cntW T Q l lk lk := by rw [q5, map_at (by omega)]
      have l6' : (Al3 166).length = l + 1 := by rw [q5, List.length_map, List.length_range]
      have c3 : cntW T Q l lk lk ≤ 300 := by have := cntW_le T Q l lk lk; omega
      have fin : ∀ s2 : Nat, s2 = bN (vC T Q lk l) → ∃ J5 Al5 v2', J5 0 = J 0 ∧ (∀ a, a ∉ [164, 165, 166, 167, 186, 187] → Al5 a = Al a) ∧ xruns (O2 L) (zden L (d + 5)) 141 114 [.ref 136, .int (nI l), .int (nI 300)] [.int (nI s2), .int (nI l), .ref 164] (ms z f J3 Al3) = xruns (O2 L) (zden L (d + 5)) 141 128 [.ref 136, .int (nI (Q.1 6).length), v2'] [] (ms z f J5 Al5) ∧ Al5 164 = (List.range (Q.1 6).length).map (fun l => bN (vC T Q lk l)) ∧ Al5 165 = List.replicate (Q.1 6).length 0 ∧ Al5 166 = (List.range (Q.1 6).length).map (fun l => cntW T Q l lk lk) ∧ CNT T Q lk (Q.1 6).length (Al5 167) := by
        intro s2 hs2
        have b01 : nI s2 = nI 0 ∨ nI s2 = nI 1 := by
          have := bN_le (vC T Q lk l)
          rcases (show s2 = 0 ∨ s2 = 1 by omega) with e | e
          · exact Or.inl (by rw [e])
          · exact Or.inr (by rw [e])
        obtain ⟨J5, Al5, v2', r1, r2, r3, r4⟩ := ih (l + 1) J3 (va_up (va_up Al3 164 (Al3 164 ++ [s2])) 165 (Al3 165 ++ [0])) (.int (nI 300)) (by omega) q1 (fun a ha => by
          have h1 : a ≠ 165 := fun q => ha (by simp [q])
          have h2 : a ≠ 164 := fun q => ha (by simp [q])
          rw [vn _ _ h1, vn _ _ h2, q2 a ha]) (by
          rw [vn _ _ (by omega), vs, q3, h4, hs2]
          exact mapS (fun l => bN (vC T Q lk l)) l) (by rw [vs, q3', h5, ← List.replicate_succ']) (by rw [vn _ _ (by omega), vn _ _ (by omega), q5]) (by rw [vn _ _ (by omega), vn _ _ (by omega)]; exact q6)
        refine ⟨J5, Al5, v2', r1, r2, ?_, r4⟩
        rw [B141_114, if_pos b01, A164 _ (by rw [q3, h4, List.length_map, List.length_range]) (by omega), Option.bind_some, J136_38, Option.bind_some, iO0, A165 0 (by rw [vn _ _ (by omega), q3', h5, List.length_replicate]) (by omega), Option.bind_some, vn _ _ (by omega), nI_add]
        exact r3
      rw [B141_2, M21r, Option.bind_some, hq.1, iL (by omega) (by omega), if_neg (by omega), B141_10, J136_39, Option.bind_some, A166 0 (by rw [l6]) (by omega), Option.bind_some, q4, B141_95, J136_37, Option.bind_some, J136_39, Option.bind_some, L166 (by rw [l6']; omega) (by omega), Option.bind_some, g6, iL (by omega) (by omega)]
      by_cases c : cntW T Q l lk lk ≤ 0
      · rw [if_pos c, B141_113]
        exact fin 0 (by unfold vC; rw [decide_eq_false (by omega)]; rfl)
      · rw [if_neg c, B141_109]
        exact fin 1 (by unfold vC; rw [decide_eq_true (by omega)]; rfl)
  obtain ⟨J3, Al3, v2', r1, r2, r3, r4⟩ := leaves (Q.1 6).length 0 J1 Al1 v2 (by omega) k2 k4 (k3 164 (by simp)) (k3 165 (by simp)) (k3 166 (by simp)) ⟨by rw [k3 167 (by simp)]; rfl, fun k w hk => by omega⟩
  exact ⟨J3, Al3, v2', ⟨r1, fun _ _ => rfl, r2⟩, by rw [k1]; exact r3, r4⟩
end
