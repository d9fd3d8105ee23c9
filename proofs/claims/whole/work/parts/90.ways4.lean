/-! EVALUATION: findWays, in the class -/
def cntW (T Q : CT) (l lk w : Nat) : Nat := (List.range w).countP (way T Q l lk)
def inA (T Q : CT) (l lk u v : Nat) : Bool := (List.range u).any (fun w => way T Q l lk w && inW T Q l lk w v)
/-- rows firsts and inWays, with all leaves before l and of l the words before w -/
def WB (T Q : CT) (lk l w : Nat) (G7 G8 : List Nat) : Prop := G7.length = lk ∧ G8.length = lk ∧ (∀ v, v < lk → ∀ j, (G7.getD v 0).testBit j = ((decide (j < l) && way T Q j lk v) || (decide (j = l) && (decide (v < w) && way T Q l lk v)))) ∧ (∀ v, v < lk → ∀ j, (G8.getD v 0).testBit j = ((decide (j < l) && inA T Q j lk lk v) || (decide (j = l) && inA T Q l lk w v)))
theorem WB.next {T Q : CT} {lk l : Nat} {G7 G8 : List Nat} (h : WB T Q lk l lk G7 G8) : WB T Q lk (l + 1) 0 G7 G8 := by
  obtain ⟨h1, h2, h3, h4⟩ := h
  refine ⟨h1, h2, fun v hv j => ?_, fun v hv j => ?_⟩
  · rw [h3 v hv j]
    by_cases a : j < l
    · have b : j < l + 1 := by omega
      have c : ¬ j = l := by omega
      simp [a, b, c]
    · by_cases c : j = l
      · subst c
        simp [hv]
      · have b : ¬ j < l + 1 := by omega
        simp [a, b, c]
  · rw [h4 v hv j]
    have i0 : ∀ l, inA T Q l lk 0 v = false := fun _ => rfl
    by_cases a : j < l
    · have b : j < l + 1 := by omega
      have c : ¬ j = l := by omega
      simp [a, b, c, i0]
    · by_cases c : j = l
      · subst c
        simp [i0]
      · have b : ¬ j < l + 1 := by omega
        simp [a, b, c, i0]
theorem inA_succ (T Q : CT) (l lk w v : Nat) : inA T Q l lk (w + 1) v = (inA T Q l lk w v || (way T Q l lk w && inW T Q l lk w v)) := any_succ _ _
theorem cntW_succ (T Q : CT) (l lk w : Nat) : cntW T Q l lk (w + 1) = cntW T Q l lk w + (if way T Q l lk w = true then 1 else 0) := by
  unfold cntW
  rw [List.range_succ, List.countP_append, List.countP_cons, List.countP_nil, Nat.zero_add]
theorem cntW_le (T Q : CT) (l lk w : Nat) : cntW T Q l lk w ≤ w := by
  have := List.countP_le_length (p := way T Q l lk) (l := List.range w)
  rw [List.length_range] at this
  exact this
section
variable {L d : Nat} {z : zS} {T Q : CT} {t q lk : Nat}
theorem x11 {M : CT} (h : RO z t q T Q) (tl : TL T) (ql : QL Q) (qf : ∀ l, l < (Q.1 6).length → QF Q l) (n12 : (Q.1 6).length ≤ 12) (hlk : M.2 16 = lk) (h300 : lk ≤ 300) (tp : TP T lk) (tw : ∀ w, w < lk → TW T w) :
    ∃ M', MFr [0, 6, 7, 8, 10, 11] M M' ∧ zden L (d + 6) 11 [.ref 4] (putM z M) = some (0, putM z M') ∧ M'.1 0 = (List.range (Q.1 6).length).map (fun l => cntW T Q l lk lk) ∧ WB T Q lk (Q.1 6).length 0 (M'.1 7) (M'.1 8) := by
  have inner : ∀ (r w l : Nat) (M1 : CT), l < (Q.1 6).length → w + r = lk → M1.2 = M.2 → FB T Q l lk ((Q.1 5).getD l 0) 0 (M1.1 6) → WB T Q lk l w (M1.1 7) (M1.1 8) →
      ∃ M2, MFr [7, 8, 10, 11] M1 M2 ∧ xruns (O2 L) (zden L (d + 5)) 11 53 [.ref 4, .int (nI l), .int (nI (cntW T Q l lk w)), .int (nI w)] [] (putM z M1) = xruns (O2 L) (zden L (d + 5)) 11 91 [.ref 4, .int (nI l), .int (nI (cntW T Q l lk lk)), .int (nI lk)] [] (putM z M2) ∧ WB T Q lk l lk (M2.1 7) (M2.1 8) := by
    intro r
    induction r with
    | zero =>
      intro w l M1 hl hw hM hF hW
      have : w = lk := by omega
      subst this
      refine ⟨M1, MFr.refl, ?_, hW⟩
      rw [B11_53, X16r, Option.bind_some, hM, hlk, iL (by omega) (by omega), if_pos (by omega)]
    | succ r ih =>
      intro w l M1 hl hw hM hF hW
      have f4 := (qf l hl).2.2.2.1
      have cl := cntW_le T Q l lk w
      have fl : (M1.1 6).length ≤ 400 := by rw [hF.1]; omega
      -- the next word, with the rows as they should be
      have next : ∀ M2, MFr [7, 8, 10, 11] M1 M2 → WB T Q lk l (w + 1) (M2.1 7) (M2.1 8) → ∃ M3, MFr [7, 8, 10, 11] M1 M3 ∧ xruns (O2 L) (zden L (d + 5)) 11 85 [.ref 4, .int (nI l), .int (nI (cntW T Q l lk (w + 1))), .int (nI w)] [] (putM z M2) = xruns (O2 L) (zden L (d + 5)) 11 91 [.ref 4, .int (nI l), .int (nI (cntW T Q l lk lk)), .int (nI lk)] [] (putM z M3) ∧ WB T Q lk l lk (M3.1 7) (M3.1 8) := by
        intro M2 fr hW2
        obtain ⟨M3, g1, g2, g3⟩ := ih (w + 1) l M2 hl (by omega) (by rw [fr.1, hM]) (by rw [fr.2 6 (by simp)]; exact hF) hW2
        exact ⟨M3, fr.trans g1, by rw [B11_85, nI_add]; exact g2, g3⟩
      have e61 : xruns (O2 L) (zden L (d + 5)) 11 53 [.ref 4, .int (nI l), .int (nI (cntW T Q l lk w)), .int (nI w)] [] (putM z M1) = if fitL T Q l w 0 = true then xruns (O2 L) (zden L (d + 5)) 11 73 [.ref 4, .int (nI l), .int (nI (cntW T Q l lk w)), .int (nI w)] [] (putM z M1) else xruns (O2 L) (zden L (d + 5)) 11 85 [.ref 4, .int (nI l), .int (nI (cntW T Q l lk w)), .int (nI w)] [] (putM z M1) := by
        rw [B11_53, X16r, Option.bind_some, hM, hlk, iL (by omega) (by omega), if_neg (by omega), B11_61, J4_8, Option.bind_some, X6h (by omega) fl (by omega), Option.bind_some, fb_at hF (by omega) (by omega), iB]
      have noway : way T Q l lk w = false → cntW T Q l lk (w + 1) = cntW T Q l lk w ∧ ∀ G7 G8, WB T Q lk l w G7 G8 → WB T Q lk l (w + 1) G7 G8 := by
        intro hn
        refine ⟨by rw [cntW_succ, hn]; rfl, fun G7 G8 ⟨a1, a2, a3, a4⟩ => ⟨a1, a2, fun v hv j => ?_, fun v hv j => ?_⟩⟩
        · rw [a3 v hv j]
          by_cases e : v = w
          · rw [e, hn]; simp
          · have : decide (v < w + 1) = decide (v < w) := by
              by_cases q : v < w
              · have : v < w + 1 := by omega
                simp [q, this]
              · have : ¬ v < w + 1 := by omega
                simp [q, this]
            rw [this]
        · rw [a4 v hv j, inA_succ, hn, Bool.false_and, Bool.or_false]
      rw [e61]
      by_cases c : fitL T Q l w 0 = true
      · obtain ⟨M2, fr2, e2, g1, g2⟩ := x17 (L := L) (d := d) (z := z) (M := M1) (w := w) h (qf l hl) hF (by rw [hM, hlk]) h300 tp (by omega) hW.1 hW.2.1
        have ew : way T Q l lk w = (eaF T Q l lk w ((Q.1 5).getD l 0 - 1)).isSome := by
          show (fitL T Q l w 0 && _) = _
          rw [c, Bool.true_and]; rfl
        rw [if_pos c, B11_73, e2, Option.bind_some, iB]
        by_cases S : (eaF T Q l lk w ((Q.1 5).getD l 0 - 1)).isSome = true
        · obtain ⟨k1, k2, k3, k4⟩ := g2 S
          rw [if_pos S, B11_82, nI_add]
          have hy : way T Q l lk w = true := by rw [ew, S]
          have ec : cntW T Q l lk w + 1 = cntW T Q l lk (w + 1) := by rw [cntW_succ, hy]; rfl
          rw [ec]
          refine next M2 fr2 ⟨k1, k2, fun v hv j => ?_, fun v hv j => ?_⟩
          · rw [k3 v hv j, hW.2.2.1 v hv j]
            by_cases e : v = w
            · subst e
              by_cases b : j = l
              · subst b; simp [hy]
              · simp [b]
            · have : decide (v < w + 1) = decide (v < w) := by
                by_cases q : v < w
                · have : v < w + 1 := by omega
                  simp [q, this]
                · have : ¬ v < w + 1 := by omega
                  simp [q, this]
              rw [this]
              simp [e]
          · rw [k4 v hv j, hW.2.2.2 v hv j, inA_succ, hy, Bool.true_and]
            by_cases b : j = l
            · simp [b]
            · simp [b]
        · have S' : (eaF T Q l lk w ((Q.1 5).getD l 0 - 1)).isSome = false := by simpa using S
          obtain ⟨k1, k2⟩ := g1 S'
          obtain ⟨n1, n2⟩ := noway (by rw [ew, S'])
          rw [if_neg S, ← n1]
          exact next M2 fr2 (by rw [k1, k2]; exact n2 _ _ hW)
      · obtain ⟨n1, n2⟩ := noway (by show (fitL T Q l w 0 && _) = _; rw [show fitL T Q l w 0 = false by simpa using c, Bool.false_and])
        rw [if_neg c, ← n1]
        exact next M1 MFr.refl (n2 _ _ hW)
  have outer : ∀ (r l : Nat) (M1 : CT) (v2 v3 : Value), l + r = (Q.1 6).length → MFr [0, 6, 7, 8, 10, 11] M M1 → M1.1 0 = (List.range l).map (fun l => cntW T Q l lk lk) → WB T Q lk l 0 (M1.1 7) (M1.1 8) →
      ∃ M', MFr [0, 6, 7, 8, 10, 11] M M' ∧ xruns (O2 L) (zden L (d + 5)) 11 33 [.ref 4, .int (nI l), v2, v3] [] (putM z M1) = some (0, putM z M') ∧ M'.1 0 = (List.range (Q.1 6).length).map (fun l => cntW T Q l lk lk) ∧ WB T Q lk (Q.1 6).length 0 (M'.1 7) (M'.1 8) := by
    intro r
    induction r with
    | zero =>
      intro l M1 v2 v3 hl fr h0 hW
      have : l = (Q.1 6).length := by omega
      subst this
      refine ⟨M1, fr, ?_, h0, hW⟩
      rw [B11_33, XP1 h, Option.bind_some, x38 h, Option.bind_some, iL (by omega) (by omega), if_pos (by omega), B11_105]
    | succ r ih =>
      intro l M1 v2 v3 hl fr h0 hW
      have ll : l < (Q.1 6).length := by omega
      obtain ⟨F, hF, eF⟩ := x12 (L := L) (d := d) (z := z) (M := M1) h tl ql (qf l ll) (by rw [fr.1, hlk]) h300 tw
      obtain ⟨M2, fr2, e2, hW2⟩ := inner lk 0 l (va_up M1.1 6 F, M1.2) ll (by omega) fr.1 hF hW
      have cl := cntW_le T Q l lk lk
      have r0 : M2.1 0 = (List.range l).map (fun l => cntW T Q l lk lk) := by rw [fr2.2 0 (by simp)]; exact h0
      have l0 : (M2.1 0).length < 12 := by rw [r0, List.length_map, List.length_range]; omega
      obtain ⟨M3, fr3, e3, h3, hW3⟩ := ih (l + 1) (va_up M2.1 0 (M2.1 0 ++ [cntW T Q l lk lk]), M2.2) (.int (nI (cntW T Q l lk lk))) (.int (nI lk)) (by omega) ((((fr.trans (MFr.r (by simp))).trans (fr2.mono (by simp))).trans (MFr.r (by simp)))) (by
        show M2.1 0 ++ [cntW T Q l lk lk] = _
        rw [r0]
        exact mapS (fun l => cntW T Q l lk lk) l) (WB.next hW2)
      refine ⟨M3, fr3, ?_, h3, hW3⟩
      have e2 : xruns (O2 L) (zden L (d + 5)) 11 53 [.ref 4, .int (nI l), .int (nI 0), .int (nI 0)] [] (putM z (va_up M1.1 6 F, M1.2)) = xruns (O2 L) (zden L (d + 5)) 11 91 [.ref 4, .int (nI l), .int (nI (cntW T Q l lk lk)), .int (nI lk)] [] (putM z M2) := e2
      rw [B11_33, XP1 h, Option.bind_some, x38 h, Option.bind_some, iL (by omega) (by omega), if_neg (by omega), B11_44, eF, Option.bind_some, e2, B11_91, J4_2, Option.bind_some, X0a _ l0, Option.bind_some, nI_add]
      exact e3
  have rz : ∀ v, (List.replicate lk 0).getD v 0 = 0 := by
    intro v
    by_cases c : v < lk
    · simp [List.getD, List.getElem?_replicate, c]
    · simp [List.getD, List.getElem?_replicate, c]
  obtain ⟨M3, fr3, e3, h3, hW3⟩ := outer (Q.1 6).length 0 (va_up (va_up (va_up M.1 7 (List.replicate lk 0)) 8 (List.replicate lk 0)) 0 [], M.2) .null .null (by omega) (((MFr.r (k := 7) (by simp)).trans (MFr.r (M := (va_up M.1 7 (List.replicate lk 0), M.2)) (k := 8) (by simp))).trans (MFr.r (M := (va_up (va_up M.1 7 (List.replicate lk 0)) 8 (List.replicate lk 0), M.2)) (k := 0) (by simp))) rfl ⟨by show (List.replicate lk 0).length = lk; simp, by show (List.replicate lk 0).length = lk; simp, fun v hv j => by
      show (((List.replicate lk 0).getD v 0).testBit j) = _
      rw [rz, Nat.zero_testBit]; simp, fun v hv j => by
      show (((List.replicate lk 0).getD v 0).testBit j) = _
      rw [rz, Nat.zero_testBit]
      have : inA T Q 0 lk 0 v = false := rfl
      simp [this]⟩
  refine ⟨M3, fr3, ?_, h3, hW3⟩
  rw [N11 _ ob4, B11_0, J4_9, Option.bind_some, X16r, Option.bind_some, hlk, X7f h300, Option.bind_some, J4_10, Option.bind_some, X16r, Option.bind_some]
  show ((zden L (d + 5) 64 [.ref 66, .int (nI (M.2 16)), .int (nI 0)] (putM z (va_up M.1 7 (List.replicate lk 0), M.2))).bind _) = _
  rw [hlk, X8f h300, Option.bind_some, J4_2, Option.bind_some, X0c, Option.bind_some]
  exact e3
end
