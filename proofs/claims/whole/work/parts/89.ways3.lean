/-! EVALUATION: all ways, in the class -/
/-- word v stands for term i in a way from w on -/
def stF (T Q : CT) (l lk w i v : Nat) : Bool := decide ((eaF T Q l lk w i).getD 0 ≤ v) && decide (v ≤ laF T Q l lk w ((Q.1 5).getD l 0 - i)) && fitL T Q l v i
theorem inW_eq (T Q : CT) (l lk w v : Nat) : inW T Q l lk w v = (decide (v = w) || (List.range ((Q.1 5).getD l 0 - 1)).any (fun i => stF T Q l lk w (i + 1) v)) := rfl
/-- what the text says of places -/
def TP (T : CT) (lk : Nat) : Prop := lk ≤ (T.1 3).length ∧ (T.1 3).length ≤ 300 ∧ ∀ v, v < lk → plT T v ≤ 10000
section
variable {L d : Nat} {z : zS} {T Q : CT} {t q l lk : Nat}
theorem x17 {M : CT} {w : Nat} (h : RO z t q T Q) (qf : QF Q l) (hF : FB T Q l lk ((Q.1 5).getD l 0) 0 (M.1 6)) (hlk : M.2 16 = lk) (h300 : lk ≤ 300) (tp : TP T lk) (hw : w < lk) (l7 : (M.1 7).length = lk) (l8 : (M.1 8).length = lk) :
    ∃ M', MFr [7, 8, 10, 11] M M' ∧ zden L (d + 5) 17 [.ref 4, .int (nI w), .int (nI l)] (putM z M) = some (bI (eaF T Q l lk w ((Q.1 5).getD l 0 - 1)).isSome, putM z M') ∧ ((eaF T Q l lk w ((Q.1 5).getD l 0 - 1)).isSome = false → M'.1 7 = M.1 7 ∧ M'.1 8 = M.1 8) ∧ ((eaF T Q l lk w ((Q.1 5).getD l 0 - 1)).isSome = true → (M'.1 7).length = lk ∧ (M'.1 8).length = lk ∧ (∀ v, v < lk → ∀ j, ((M'.1 7).getD v 0).testBit j = (((M.1 7).getD v 0).testBit j || (decide (v = w) && decide (j = l)))) ∧ (∀ v, v < lk → ∀ j, ((M'.1 8).getD v 0).testBit j = (((M.1 8).getD v 0).testBit j || (decide (j = l) && inW T Q l lk w v)))) := by
  obtain ⟨f1, f2, f3, f4, f5, f6, f7, f8, f9, f10⟩ := qf
  obtain ⟨p1, p2, p3⟩ := tp
  obtain ⟨la1, la2⟩ := leF_lt (T := T) (Q := Q) (l := l) hw
  obtain ⟨E, e1, e2⟩ := x19 (L := L) (d := d + 1) (z := z) (M := M) (w := w) (last := leF T Q l lk w) hF h300 hw la2 f4 f5
  have e0 : zden L (d + 5) 17 [.ref 4, .int (nI w), .int (nI l)] (putM z M) = if (eaF T Q l lk w ((Q.1 5).getD l 0 - 1)).isSome = true then xruns (O2 L) (zden L (d + 4)) 17 47 [.ref 4, .int (nI w), .int (nI l), .int (nI ((Q.1 5).getD l 0)), .int (nI (leF T Q l lk w)), .null, .null] [] (putM z (va_up M.1 10 E, M.2)) else xruns (O2 L) (zden L (d + 4)) 17 45 [.ref 4, .int (nI w), .int (nI l), .int (nI ((Q.1 5).getD l 0)), .int (nI (leF T Q l lk w)), .null, .null] [] (putM z (va_up M.1 10 E, M.2)) := by
    rw [N17 _ _ _ ob4, B17_0, XP1 h, Option.bind_some, R3_5 h.2.1, Option.bind_some, XQ5g h, Option.bind_some, zget_map f2 (by omega), XP1 h, Option.bind_some, R3_6 h.2.1, Option.bind_some, XQ6g h, Option.bind_some, zget_map f3 (by omega), pk_sub f4, nI_add, x18 h hlk h300 p1 p2 p3 hw (by omega), Option.bind_some]
    show ((zden L (d + 4) 19 [.ref 4, .int (nI w), .int (nI (leF T Q l lk w)), .int (nI ((Q.1 5).getD l 0))] (putM z M)).bind _) = _
    rw [e1, Option.bind_some, iB]
    rfl
  by_cases S : (eaF T Q l lk w ((Q.1 5).getD l 0 - 1)).isSome = true
  · have hE : E = (List.range ((Q.1 5).getD l 0)).map (fun i => (eaF T Q l lk w i).getD 0) := e2 S
    have hF1 : FB T Q l lk ((Q.1 5).getD l 0) 0 ((va_up M.1 10 E, M.2).1 6) := hF
    obtain ⟨E', g1, g2, g3⟩ := x20 (L := L) (d := d) (z := z) (M := (va_up M.1 10 E, M.2)) (w := w) (last := leF T Q l lk w) hF1 h300 hw la2 f4 f5 S
    generalize hMb : (va_up (va_up (va_up M.1 10 E) 11 E') 7 ((M.1 7).set w ((M.1 7).getD w 0 ||| 2 ^ l))) = R
    have R8 : R 8 = M.1 8 := by rw [← hMb]; rfl
    have R6 : R 6 = M.1 6 := by rw [← hMb]; rfl
    have R10 : R 10 = E := by rw [← hMb]; rfl
    have R11 : R 11 = E' := by rw [← hMb]; rfl
    have R7 : R 7 = (M.1 7).set w ((M.1 7).getD w 0 ||| 2 ^ l) := by rw [← hMb]; rfl
    have fl : (M.1 6).length ≤ 400 := by rw [hF.1]; omega
    have e47 : xruns (O2 L) (zden L (d + 4)) 17 47 [.ref 4, .int (nI w), .int (nI l), .int (nI ((Q.1 5).getD l 0)), .int (nI (leF T Q l lk w)), .null, .null] [] (putM z (va_up M.1 10 E, M.2)) = xruns (O2 L) (zden L (d + 4)) 17 76 [.ref 4, .int (nI w), .int (nI l), .int (nI ((Q.1 5).getD l 0)), .int (nI (leF T Q l lk w)), .int (nI 1), .null] [] (putM z (va_up R 8 ((M.1 8).set w ((M.1 8).getD w 0 ||| 2 ^ l)), M.2)) := by
      rw [B17_47, g1, Option.bind_some, J4_9, Option.bind_some, X7b (M := (va_up (va_up M.1 10 E) 11 E', M.2)) (by show w < (M.1 7).length; omega) (by show (M.1 7).length ≤ 400; omega) (by omega), Option.bind_some, J4_10, Option.bind_some]
      show ((zden L (d + 4) 59 [.ref 66, .int (nI w), .int (nI l)] (putM z (va_up (va_up (va_up M.1 10 E) 11 E') 7 ((M.1 7).set w ((M.1 7).getD w 0 ||| 2 ^ l)), M.2))).bind _) = _
      rw [hMb, X8b (M := (R, M.2)) (by show w < (R 8).length; rw [R8]; omega) (by show (R 8).length ≤ 400; rw [R8]; omega) (by omega), Option.bind_some]
      show xruns (O2 L) (zden L (d + 4)) 17 76 [.ref 4, .int (nI w), .int (nI l), .int (nI ((Q.1 5).getD l 0)), .int (nI (leF T Q l lk w)), .int (nI 1), .null] [] (putM z (va_up R 8 ((R 8).set w ((R 8).getD w 0 ||| 2 ^ l)), M.2)) = _
      rw [R8]
    -- the words of the ways
    have inner : ∀ (r x i : Nat) (G : List Nat), 1 ≤ i → i < (Q.1 5).getD l 0 → x + r = laF T Q l lk w ((Q.1 5).getD l 0 - i) + 1 → (eaF T Q l lk w i).getD 0 ≤ x → (G.length = lk ∧ ∀ v, v < lk → ∀ j, (G.getD v 0).testBit j = (((M.1 8).getD v 0).testBit j || (decide (j = l) && (decide (v = w) || (List.range (i - 1)).any (fun k => stF T Q l lk w (k + 1) v) || (decide (v < x) && stF T Q l lk w i v))))) →
        ∃ G', (G'.length = lk ∧ ∀ v, v < lk → ∀ j, (G'.getD v 0).testBit j = (((M.1 8).getD v 0).testBit j || (decide (j = l) && (decide (v = w) || (List.range i).any (fun k => stF T Q l lk w (k + 1) v))))) ∧ xruns (O2 L) (zden L (d + 4)) 17 93 [.ref 4, .int (nI w), .int (nI l), .int (nI ((Q.1 5).getD l 0)), .int (nI (leF T Q l lk w)), .int (nI i), .int (nI x)] [] (putM z (va_up R 8 G, M.2)) = xruns (O2 L) (zden L (d + 4)) 17 76 [.ref 4, .int (nI w), .int (nI l), .int (nI ((Q.1 5).getD l 0)), .int (nI (leF T Q l lk w)), .int (nI (i + 1)), .int (nI (laF T Q l lk w ((Q.1 5).getD l 0 - i) + 1))] [] (putM z (va_up R 8 G', M.2)) := by
      intro r
      induction r with
      | zero =>
        intro x i G i1 i2 hx hx2 hG
        obtain ⟨y, y1, y2, y3, y4⟩ := lat_ge (fit := fitL T Q l) (last := leF T Q l lk w) (w := w) (n := (Q.1 5).getD l 0) S ((Q.1 5).getD l 0 - i) (by omega) (by omega)
        have y3 : laF T Q l lk w ((Q.1 5).getD l 0 - i) ≤ leF T Q l lk w := y3
        refine ⟨G, ⟨hG.1, fun v hv j => ?_⟩, ?_⟩
        · rw [hG.2 v hv j]
          have ei : (List.range i).any (fun k => stF T Q l lk w (k + 1) v) = ((List.range (i - 1)).any (fun k => stF T Q l lk w (k + 1) v) || stF T Q l lk w i v) := by
            conv => lhs; rw [show i = i - 1 + 1 by omega]
            rw [any_succ, show i - 1 + 1 = i by omega]
          rw [ei]
          have : (decide (v < x) && stF T Q l lk w i v) = stF T Q l lk w i v := by
            by_cases c : v < x
            · simp [c]
            · have : stF T Q l lk w i v = false := by
                unfold stF
                have : ¬ v ≤ laF T Q l lk w ((Q.1 5).getD l 0 - i) := by omega
                rw [decide_eq_false this, Bool.and_false, Bool.false_and]
              rw [this, Bool.and_false]
          rw [this, Bool.or_assoc]
        · rw [B17_93, J4_13, Option.bind_some, X11g, Option.bind_some]
          show (if zget ((R 11).map nI) (nI i) < nI x then _ else _) = _
          rw [R11, zget_map (by omega) (by omega), g3 i i1 i2]
          show (if nI (laF T Q l lk w ((Q.1 5).getD l 0 - i)) < nI x then _ else _) = _
          rw [iT (by omega) (by omega), if_pos (by omega), B17_137, nI_add, show x = laF T Q l lk w ((Q.1 5).getD l 0 - i) + 1 by omega]
      | succ r ih =>
        intro x i G i1 i2 hx hx2 hG
        obtain ⟨y, y1, y2, y3, y4⟩ := lat_ge (fit := fitL T Q l) (last := leF T Q l lk w) (w := w) (n := (Q.1 5).getD l 0) S ((Q.1 5).getD l 0 - i) (by omega) (by omega)
        have y3 : laF T Q l lk w ((Q.1 5).getD l 0 - i) ≤ leF T Q l lk w := y3
        have xl : x < lk := by omega
        have e107 : xruns (O2 L) (zden L (d + 4)) 17 93 [.ref 4, .int (nI w), .int (nI l), .int (nI ((Q.1 5).getD l 0)), .int (nI (leF T Q l lk w)), .int (nI i), .int (nI x)] [] (putM z (va_up R 8 G, M.2)) = if fitL T Q l x i = true then xruns (O2 L) (zden L (d + 4)) 17 121 [.ref 4, .int (nI w), .int (nI l), .int (nI ((Q.1 5).getD l 0)), .int (nI (leF T Q l lk w)), .int (nI i), .int (nI x)] [] (putM z (va_up R 8 G, M.2)) else xruns (O2 L) (zden L (d + 4)) 17 131 [.ref 4, .int (nI w), .int (nI l), .int (nI ((Q.1 5).getD l 0)), .int (nI (leF T Q l lk w)), .int (nI i), .int (nI x)] [] (putM z (va_up R 8 G, M.2)) := by
          rw [B17_93, J4_13, Option.bind_some, X11g, Option.bind_some]
          show (if zget ((R 11).map nI) (nI i) < nI x then _ else _) = _
          rw [R11, zget_map (by omega) (by omega), g3 i i1 i2]
          show (if nI (laF T Q l lk w ((Q.1 5).getD l 0 - i)) < nI x then _ else _) = _
          rw [iT (by omega) (by omega), if_neg (by omega), B17_107, J4_8, Option.bind_some, X6h (M := (va_up R 8 G, M.2)) (by omega) (by show (R 6).length ≤ 400; rw [R6]; exact fl) (by omega), Option.bind_some]
          show (if bI (((R 6).getD x 0).testBit i) = nI 0 then _ else _) = _
          rw [R6, fb_at hF xl i2, iB]
        rw [e107]
        by_cases c : fitL T Q l x i = true
        · have gl : x < G.length := by rw [hG.1]; exact xl
          obtain ⟨G', k1, k2⟩ := ih (x + 1) i (G.set x (G.getD x 0 ||| 2 ^ l)) i1 i2 (by omega) (by omega) ⟨by rw [List.length_set, hG.1], fun v hv j => by
            rw [or_bit gl, hG.2 v hv j]
            by_cases e : v = x
            · subst e
              by_cases b : j = l
              · have : stF T Q l lk w i v = true := by
                  unfold stF
                  rw [decide_eq_true hx2, decide_eq_true (show v ≤ laF T Q l lk w ((Q.1 5).getD l 0 - i) by omega), c]; rfl
                simp [b, this]
              · simp [b]
            · have : decide (v < x + 1) = decide (v < x) := by
                by_cases q : v < x
                · have : v < x + 1 := by omega
                  simp [q, this]
                · have : ¬ v < x + 1 := by omega
                  simp [q, this]
              simp [e, this]⟩
          refine ⟨G', k1, ?_⟩
          rw [if_pos c, B17_121, J4_10, Option.bind_some, X8b (M := (va_up R 8 G, M.2)) (by show x < (va_up R 8 G 8).length; rw [vs]; exact gl) (by show (va_up R 8 G 8).length ≤ 400; rw [vs, hG.1]; omega) (by omega), Option.bind_some, B17_131, nI_add, ← k2]
          show xruns _ _ _ _ _ _ (putM z (va_up (va_up R 8 G) 8 ((va_up R 8 G 8).set x ((va_up R 8 G 8).getD x 0 ||| 2 ^ l)), M.2)) = _
          rw [vs, vv]
        · obtain ⟨G', k1, k2⟩ := ih (x + 1) i G i1 i2 (by omega) (by omega) ⟨hG.1, fun v hv j => by
            rw [hG.2 v hv j]
            by_cases e : v = x
            · have : stF T Q l lk w i v = false := by
                unfold stF
                rw [e, show fitL T Q l x i = false by simpa using c, Bool.and_false]
              simp [this]
            · have : decide (v < x + 1) = decide (v < x) := by
                by_cases q : v < x
                · have : v < x + 1 := by omega
                  simp [q, this]
                · have : ¬ v < x + 1 := by omega
                  simp [q, this]
              simp [this]⟩
          exact ⟨G', k1, by rw [if_neg c, B17_131, nI_add]; exact k2⟩
    have outer : ∀ (r i : Nat) (G : List Nat) (v6 : Value), i + r = (Q.1 5).getD l 0 → 1 ≤ i → (G.length = lk ∧ ∀ v, v < lk → ∀ j, (G.getD v 0).testBit j = (((M.1 8).getD v 0).testBit j || (decide (j = l) && (decide (v = w) || (List.range (i - 1)).any (fun k => stF T Q l lk w (k + 1) v))))) →
        ∃ G', (G'.length = lk ∧ ∀ v, v < lk → ∀ j, (G'.getD v 0).testBit j = (((M.1 8).getD v 0).testBit j || (decide (j = l) && inW T Q l lk w v))) ∧ xruns (O2 L) (zden L (d + 4)) 17 76 [.ref 4, .int (nI w), .int (nI l), .int (nI ((Q.1 5).getD l 0)), .int (nI (leF T Q l lk w)), .int (nI i), v6] [] (putM z (va_up R 8 G, M.2)) = some (nI 1, putM z (va_up R 8 G', M.2)) := by
      intro r
      induction r with
      | zero =>
        intro i G v6 hi i1 hG
        have : i = (Q.1 5).getD l 0 := by omega
        subst this
        refine ⟨G, ⟨hG.1, hG.2⟩, ?_⟩
        rw [B17_76, iL (by omega) (by omega), if_pos (by omega), B17_143, iO1]
      | succ r ih =>
        intro i G v6 hi i1 hG
        obtain ⟨y, y1, y2, y3, y4⟩ := lat_ge (fit := fitL T Q l) (last := leF T Q l lk w) (w := w) (n := (Q.1 5).getD l 0) S ((Q.1 5).getD l 0 - i) (by omega) (by omega)
        rw [show (Q.1 5).getD l 0 - ((Q.1 5).getD l 0 - i) = i by omega] at y1
        have y1 : eaF T Q l lk w i = some y := y1
        have y2 : y ≤ laF T Q l lk w ((Q.1 5).getD l 0 - i) := y2
        obtain ⟨G1, k1, k2⟩ := inner (laF T Q l lk w ((Q.1 5).getD l 0 - i) + 1 - y) y i G i1 (by omega) (by omega) (by rw [y1]; exact Nat.le_refl _) ⟨hG.1, fun v hv j => by
          rw [hG.2 v hv j]
          have : (decide (v < y) && stF T Q l lk w i v) = false := by
            by_cases c : v < y
            · have : stF T Q l lk w i v = false := by
                unfold stF
                rw [y1, decide_eq_false (show ¬ (some y).getD 0 ≤ v from by show ¬ y ≤ v; omega)]; rfl
              rw [this, Bool.and_false]
            · simp [c]
          rw [this, Bool.or_false]⟩
        obtain ⟨G2, m1, m2⟩ := ih (i + 1) G1 (.int (nI (laF T Q l lk w ((Q.1 5).getD l 0 - i) + 1))) (by omega) (by omega) ⟨k1.1, fun v hv j => by rw [k1.2 v hv j, Nat.add_sub_cancel]⟩
        refine ⟨G2, m1, ?_⟩
        have gl : zget ((R 10).map nI) (nI i) = nI y := by
          rw [R10, hE, zget_map (by rw [List.length_map, List.length_range]; omega) (by rw [List.length_map, List.length_range]; omega), gD (by rw [List.length_map, List.length_range]; omega), List.getElem_map, List.getElem_range, y1]; rfl
        rw [B17_76, iL (by omega) (by omega), if_neg (by omega), B17_82, J4_12, Option.bind_some, X10g, Option.bind_some]
        show xruns (O2 L) (zden L (d + 4)) 17 93 [.ref 4, .int (nI w), .int (nI l), .int (nI ((Q.1 5).getD l 0)), .int (nI (leF T Q l lk w)), .int (nI i), .int (zget ((R 10).map nI) (nI i))] [] (putM z (va_up R 8 G, M.2)) = _
        rw [gl, k2, m2]
    obtain ⟨G, o1, o2⟩ := outer ((Q.1 5).getD l 0 - 1) 1 ((M.1 8).set w ((M.1 8).getD w 0 ||| 2 ^ l)) .null (by omega) (by omega) ⟨by rw [List.length_set, l8], fun v hv j => by
      rw [or_bit (by omega)]
      show _ = (_ || (decide (j = l) && (decide (v = w) || ([] : List Nat).any _)))
      rw [List.any_nil, Bool.or_false, Bool.and_comm (decide (v = w))]⟩
    refine ⟨(va_up R 8 G, M.2), ⟨rfl, fun k hk => ?_⟩, ?_, fun q => absurd q (by rw [S]; decide), fun _ => ⟨?_, ?_, ?_, ?_⟩⟩
    · show va_up R 8 G k = M.1 k
      simp only [List.mem_cons, List.not_mem_nil, or_false, not_or] at hk
      rw [vn _ _ hk.2.1, ← hMb, vn _ _ hk.1, vn _ _ hk.2.2.2, vn _ _ hk.2.2.1]
    · rw [e0, if_pos S, e47, o2, S]; rfl
    · show (va_up R 8 G 7).length = lk
      rw [vn _ _ (by omega), R7, List.length_set, l7]
    · show (va_up R 8 G 8).length = lk
      rw [vs]; exact o1.1
    · intro v hv j
      show ((va_up R 8 G 7).getD v 0).testBit j = _
      rw [vn _ _ (by omega), R7, or_bit (by omega)]
    · intro v hv j
      show ((va_up R 8 G 8).getD v 0).testBit j = _
      rw [vs]; exact o1.2 v hv j
  · have S' : (eaF T Q l lk w ((Q.1 5).getD l 0 - 1)).isSome = false := by simpa using S
    refine ⟨(va_up M.1 10 E, M.2), MFr.r (by simp), ?_, fun _ => ⟨rfl, rfl⟩, fun q => absurd q S⟩
    rw [e0, if_neg S, B17_45, iO0, S']; rfl
end
