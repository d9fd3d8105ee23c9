/-! THE REFERENCE: findWords, sentences -/
def sentK (K : KT) (k : Nat) : List Nat := swl (chK K) (bkK K) (wF K) (wL K) k
def wplK (K : KT) (k : Nat) : Nat := wpl (bkK K) (wF K) (wL K) k
theorem sentK_len (K : KT) : ∀ k, (sentK K k).length ≤ k := by
  intro k
  induction k with
  | zero => exact Nat.le_refl _
  | succ k ih =>
    unfold sentK swl
    unfold sentK at ih
    split
    · simp only [List.length_append, List.length_cons, List.length_nil]; omega
    · omega
theorem sentK_pos (K : KT) : ∀ k, 1 ≤ k → 1 ≤ (sentK K k).length := by
  intro k
  induction k with
  | zero => intro h; omega
  | succ k ih =>
    intro _
    unfold sentK swl
    unfold sentK at ih
    split
    · simp only [List.length_append, List.length_cons, List.length_nil]; omega
    · rename_i q
      exact ih (by omega)
theorem mapS (g : Nat → Nat) (w : Nat) : (List.range w).map g ++ [g w] = (List.range (w + 1)).map g := by
  rw [List.range_succ, List.map_append]; rfl
section
variable {L d : Nat} {z : zS} {A : Nat → Nat → Int32}
theorem m121_loop2 {K : KT} (hx : ∀ x ∈ K 139, x ≤ 126) (hl : (K 139).length ≤ 1000) (hbl : (K 143).length = (K 139).length + 1) (hbit : BitL (K 143)) (hW : (wF K).length ≤ 300) (hLF : (wL K).length = (wF K).length) (hF : ∀ k, k < (wF K).length → (wF K).getD k 0 ≤ (wL K).getD k 0 ∧ (wL K).getD k 0 < (K 139).length) (hG : ∀ k, k + 1 < (wF K).length → (wL K).getD k 0 < (wF K).getD (k + 1) 0) : ∀ (r w : Nat) (f : Nat → Int32) (Al : KT) (v2 v3 v4 v5 : Value), w + r = (wF K).length → Al 139 = K 139 → Al 143 = K 143 → f 14 = nI (wF K).length → Al 147 = wF K → Al 148 = wL K → f 19 = nI (sentK K w).length → Al 149 = (List.range w).map (wplK K) → Al 150 = (List.range w).map (fun k => (sentK K (k + 1)).length - 1) → Al 151 = sentK K w →
    ∃ f' Al', FrM [19] [149, 150, 151] f A Al f' A Al' ∧ xruns (O2 L) (zden L (d + 3)) 121 90 [.ref 136, .int (nI w), v2, v3, v4, v5] [] (ms z f A Al) = some (0, ms z f' A Al') ∧ f' 19 = nI (sentK K (wF K).length).length ∧ Al' 149 = (List.range (wF K).length).map (wplK K) ∧ Al' 150 = (List.range (wF K).length).map (fun k => (sentK K (k + 1)).length - 1) ∧ Al' 151 = sentK K (wF K).length ++ [(wF K).length] := by
  intro r
  induction r with
  | zero =>
    intro w f Al v2 v3 v4 v5 hw h139 h143 h14 h147 h148 h19 h149 h150 h151
    have : w = (wF K).length := by omega
    subst this
    have sl := sentK_len K (wF K).length
    refine ⟨f, va_up Al 151 (Al 151 ++ [(wF K).length]), FrM.a (by simp), ?_, h19, h149, h150, by rw [vs, h151]⟩
    rw [B121_90, M14r, Option.bind_some, h14, iL (by omega) (by omega), if_pos (by omega), B121_303, J136_20, Option.bind_some, M19r, Option.bind_some, M14r, Option.bind_some, h14, h19, A151 _ (by rw [h151]) (by omega), Option.bind_some]
  | succ r ih =>
    intro w f Al v2 v3 v4 v5 hw h139 h143 h14 h147 h148 h19 h149 h150 h151
    have sl := sentK_len K w
    have sp := sentK_pos K (w + 1) (by omega)
    have l149 : (Al 149).length = w := by rw [h149]; simp
    have l150 : (Al 150).length = w := by rw [h150]; simp
    have l147 : w < (Al 147).length := by rw [h147]; omega
    -- behind the scan
    have tail : ∀ (B1 B2 : Bool) (v4 v5 : Value), wplK K w = (if w = 0 then 0 else wplK K (w - 1) + (if B1 = true then 11 else 1)) → sentK K (w + 1) = (if w = 0 ∨ B1 = true ∨ B2 = true then sentK K w ++ [w] else sentK K w) →
        ∃ f' Al', FrM [19] [149, 150, 151] f A Al f' A Al' ∧ xruns (O2 L) (zden L (d + 3)) 121 220 [.ref 136, .int (nI w), .int (bI B1), .int (bI B2), v4, v5] [] (ms z f A Al) = some (0, ms z f' A Al') ∧ f' 19 = nI (sentK K (wF K).length).length ∧ Al' 149 = (List.range (wF K).length).map (wplK K) ∧ Al' 150 = (List.range (wF K).length).map (fun k => (sentK K (k + 1)).length - 1) ∧ Al' 151 = sentK K (wF K).length ++ [(wF K).length] := by
      intro B1 B2 v4 v5 hp hs
      have t252 : ∀ v4 v5, ∃ f' Al', FrM [19] [149, 150, 151] f A Al f' A Al' ∧ xruns (O2 L) (zden L (d + 3)) 121 252 [.ref 136, .int (nI w), .int (bI B1), .int (bI B2), v4, v5] [.int (nI (wplK K w)), .int (nI w), .ref 149] (ms z f A Al) = some (0, ms z f' A Al') ∧ f' 19 = nI (sentK K (wF K).length).length ∧ Al' 149 = (List.range (wF K).length).map (wplK K) ∧ Al' 150 = (List.range (wF K).length).map (fun k => (sentK K (k + 1)).length - 1) ∧ Al' 151 = sentK K (wF K).length ++ [(wF K).length] := by
        intro v4 v5
        rw [B121_252, A149 _ l149 (by omega), Option.bind_some, iE (by omega) (by omega)]
        have t285 : ∀ (f1 : Nat → Int32) (Al1 : KT), FrM [19] [149, 150, 151] f A Al f1 A Al1 → f1 19 = nI (sentK K (w + 1)).length → Al1 149 = (List.range (w + 1)).map (wplK K) → Al1 150 = Al 150 → Al1 151 = sentK K (w + 1) → ∃ f' Al', FrM [19] [149, 150, 151] f A Al f' A Al' ∧ xruns (O2 L) (zden L (d + 3)) 121 285 [.ref 136, .int (nI w), .int (bI B1), .int (bI B2), v4, v5] [] (ms z f1 A Al1) = some (0, ms z f' A Al') ∧ f' 19 = nI (sentK K (wF K).length).length ∧ Al' 149 = (List.range (wF K).length).map (wplK K) ∧ Al' 150 = (List.range (wF K).length).map (fun k => (sentK K (k + 1)).length - 1) ∧ Al' 151 = sentK K (wF K).length ++ [(wF K).length] := by
          intro f1 Al1 fr g19 g149 g150 g151
          obtain ⟨f', Al', fr2, ex, x1, x2, x3, x4⟩ := ih (w + 1) f1 (va_up Al1 150 (Al1 150 ++ [(sentK K (w + 1)).length - 1])) (.int (bI B1)) (.int (bI B2)) v4 v5 (by omega) (by rw [vn _ _ (by omega), fr.2.2 139 (by simp), h139]) (by rw [vn _ _ (by omega), fr.2.2 143 (by simp), h143]) (by rw [fr.2.1 14 (by simp), h14]) (by rw [vn _ _ (by omega), fr.2.2 147 (by simp), h147]) (by rw [vn _ _ (by omega), fr.2.2 148 (by simp), h148]) g19 (by rw [vn _ _ (by omega), g149]) (by rw [vs, g150, h150]; exact mapS (fun k => (sentK K (k + 1)).length - 1) w) (by rw [vn _ _ (by omega), g151])
          refine ⟨f', Al', (fr.trans (FrM.a (by simp))).trans fr2, ?_, x1, x2, x3, x4⟩
          rw [B121_285, J136_18, Option.bind_some, M19r, Option.bind_some, g19, pk_sub (by omega), A150 _ (by rw [g150, l150]) (by omega), Option.bind_some, nI_add]
          exact ex
        have m149 : Al 149 ++ [wplK K w] = (List.range (w + 1)).map (wplK K) := by rw [h149]; exact mapS (wplK K) w
        have t265 : (w = 0 ∨ B1 = true ∨ B2 = true) → ∃ f' Al', FrM [19] [149, 150, 151] f A Al f' A Al' ∧ xruns (O2 L) (zden L (d + 3)) 121 265 [.ref 136, .int (nI w), .int (bI B1), .int (bI B2), v4, v5] [] (ms z f A (va_up Al 149 (Al 149 ++ [wplK K w]))) = some (0, ms z f' A Al') ∧ f' 19 = nI (sentK K (wF K).length).length ∧ Al' 149 = (List.range (wF K).length).map (wplK K) ∧ Al' 150 = (List.range (wF K).length).map (fun k => (sentK K (k + 1)).length - 1) ∧ Al' 151 = sentK K (wF K).length ++ [(wF K).length] := by
          intro q
          rw [if_pos q] at hs
          rw [B121_265, J136_20, Option.bind_some, M19r, Option.bind_some, h19, A151 _ (by rw [vn _ _ (by omega), h151]) (by omega), Option.bind_some, M19r, Option.bind_some, M19p, Option.bind_some, h19, nI_add]
          exact t285 _ _ (((FrM.f (by simp)).trans (FrM.a (by simp))).trans (FrM.a (by simp))) (by rw [vs, hs, List.length_append]; rfl) (by rw [vn _ _ (by omega), vs, m149]) (by rw [vn _ _ (by omega), vn _ _ (by omega)]) (by rw [vs, vn _ _ (by omega), h151, hs])
        by_cases q0 : w = 0
        · rw [if_pos q0]; exact t265 (Or.inl q0)
        · rw [if_neg q0, B121_257, iB]
          cases B1 with
          | true => rw [if_pos rfl]; exact t265 (Or.inr (Or.inl rfl))
          | false =>
            rw [if_neg (by decide), B121_261, iB]
            cases B2 with
            | true => rw [if_pos rfl]; exact t265 (Or.inr (Or.inr rfl))
            | false =>
              rw [if_neg (by decide)]
              rw [if_neg (by simp [q0])] at hs
              exact t285 f _ (FrM.a (by simp)) (by rw [h19, hs]) (by rw [vs, m149]) (by rw [vn _ _ (by omega)]) (by rw [vn _ _ (by omega), h151, hs])
      rw [B121_220, J136_17, Option.bind_some, iE (by omega) (by omega)]
      by_cases q0 : w = 0
      · rw [if_pos q0] at hp
        rw [if_pos q0, B121_229, ← hp]
        exact t252 _ _
      · rw [if_neg q0] at hp
        have gm : (Al 149).getD (w - 1) 0 = wplK K (w - 1) := by
          rw [h149, gD (by simp; omega), List.getElem_map, List.getElem_range]
        rw [if_neg q0, B121_233, J136_17, Option.bind_some, pk_sub (by omega), L149 (by omega) (by omega), Option.bind_some, gm, iB]
        cases B1 with
        | true =>
          rw [if_pos rfl, B121_245, B121_251, nI_add]
          rw [if_pos rfl] at hp
          rw [← hp]
          exact t252 _ _
        | false =>
          rw [if_neg (by decide), B121_250, B121_251, nI_add]
          rw [if_neg (by decide)] at hp
          rw [← hp]
          exact t252 _ _
    rw [B121_90, M14r, Option.bind_some, h14, iL (by omega) (by omega), if_neg (by omega), B121_98, iL (by omega) (by omega)]
    by_cases q0 : w = 0
    · subst q0
      rw [if_pos (by omega)]
      exact tail false false _ _ (by rw [if_pos rfl]; rfl) (by rw [if_pos (Or.inl rfl)]; rfl)
    · have gl := (hF (w - 1) (by omega)).2
      have gw := hG (w - 1) (by omega)
      rw [Nat.sub_one_add_one q0] at gw
      have gn := hF w (by omega)
      rw [if_neg (by omega), B121_106, J136_16, Option.bind_some, pk_sub (by omega), L148 (by rw [h148, hLF]; omega) (by omega), Option.bind_some, nI_add, h148]
      obtain ⟨y4, y5, e⟩ := m121_in (L := L) (d := d) (z := z) (A := A) hx hl hbl hbit (f := f) h139 h143 l147 (by omega) (by rw [h147]) gw (by omega) ((wF K).getD w 0 - (wL K).getD (w - 1) 0) 0 v5 (by omega)
      rw [Nat.zero_min] at e
      have e2 : xruns (O2 L) (zden L (d + 3)) 121 118 [.ref 136, .int (nI w), .int (nI 0), .int (nI 0), .int (nI ((wL K).getD (w - 1) 0 + 1)), v5] [] (ms z f A Al) = xruns (O2 L) (zden L (d + 3)) 121 220 [.ref 136, .int (nI w), .int (bI ((List.range ((wF K).getD w 0 - (wL K).getD (w - 1) 0)).any (fun i => decide (bkK K ((wL K).getD (w - 1) 0 + 1 + i) = 1)))), .int (bI ((List.range ((wF K).getD w 0 - (wL K).getD (w - 1) 0 - 1)).any (fun i => spB (chK K ((wL K).getD (w - 1) 0 + 1 + i)) && decide (chK K ((wL K).getD (w - 1) 0 + 1 + i + 1) = 32)))), y4, y5] [] (ms z f A Al) := e
      rw [e2]
      refine tail _ _ y4 y5 ?_ ?_
      · rw [if_neg q0]
        conv => lhs; rw [← Nat.sub_one_add_one q0]; unfold wplK wpl
        unfold wplK brW
        rw [Nat.sub_one_add_one q0]
      · unfold sentK
        conv => lhs; unfold swl
        unfold brW stW
        rw [Nat.sub_one_add_one q0]
theorem m121 {K : KT} (hx : ∀ x ∈ K 139, x ≤ 126) (hl : (K 139).length ≤ 1000) (hbl : (K 143).length = (K 139).length + 1) (hbit : BitL (K 143)) (hW : (wF K).length ≤ 300) (hF : ∀ k, k < (wF K).length → (wF K).getD k 0 ≤ (wL K).getD k 0 ∧ (wL K).getD k 0 < (K 139).length) (hG : ∀ k, k + 1 < (wF K).length → (wL K).getD k 0 < (wF K).getD (k + 1) 0) {f : Nat → Int32} {Al : KT} (h4 : f 4 = nI (K 139).length) (h139 : Al 139 = K 139) (h143 : Al 143 = K 143) :
    ∃ f' A' Al', FrM [14, 19] [147, 148, 149, 150, 151] f A Al f' A' Al' ∧ zden L (d + 4) 121 [.ref 136] (ms z f A Al) = some (0, ms z f' A' Al') ∧ f' 14 = nI (wF K).length ∧ f' 19 = nI (sentK K (wF K).length).length ∧ Al' 147 = wF K ∧ Al' 148 = wL K ∧ Al' 149 = (List.range (wF K).length).map (wplK K) ∧ Al' 150 = (List.range (wF K).length).map (fun k => (sentK K (k + 1)).length - 1) ∧ Al' 151 = sentK K (wF K).length ++ [(wF K).length] := by
  obtain ⟨B1, j1, e1⟩ := ms_forget (z := z) (f := f) (A := A) (Al := Al) 147
  obtain ⟨B2, j2, e2⟩ := ms_forget (z := z) (f := f) (A := B1) (Al := va_up Al 147 []) 148
  obtain ⟨B3, j3, e3⟩ := ms_forget (z := z) (f := f) (A := B2) (Al := va_up (va_up Al 147 []) 148 []) 149
  obtain ⟨B4, j4, e4⟩ := ms_forget (z := z) (f := f) (A := B3) (Al := va_up (va_up (va_up Al 147 []) 148 []) 149 []) 150
  obtain ⟨B5, j5, e5⟩ := ms_forget (z := z) (f := f) (A := B4) (Al := va_up (va_up (va_up (va_up Al 147 []) 148 []) 149 []) 150 []) 151
  have frj : FrM [14, 19] [147, 148, 149, 150, 151] f A Al f B5 (va_up (va_up (va_up (va_up (va_up Al 147 []) 148 []) 149 []) 150 []) 151 []) := FrM.trans (FrM.j (by rw [e5, e4, e3, e2, e1])) (((((FrM.a (by simp)).trans (FrM.a (by simp))).trans (FrM.a (by simp))).trans (FrM.a (by simp))).trans (FrM.a (by simp)))
  rw [j1, j2, j3, j4, j5]
  generalize hQ : va_up (va_up (va_up (va_up (va_up Al 147 []) 148 []) 149 []) 150 []) 151 [] = Q
  rw [hQ] at frj
  have qE : ∀ a, 147 ≤ a → a ≤ 151 → Q a = [] := by
    intro a ha hb
    rw [← hQ]
    have : a = 147 ∨ a = 148 ∨ a = 149 ∨ a = 150 ∨ a = 151 := by omega
    rcases this with rfl | rfl | rfl | rfl | rfl <;> simp (disch := omega) only [vn, vs]
  obtain ⟨f1, Al1, fr1, ex1, g14, g147, g148⟩ := m121_loop1 (L := L) (d := d) (z := z) (A := B5) (v2 := .null) (v3 := .null) (v4 := .null) (v5 := .null) hx hl hbl hbit hW (K 139).length 0 (va_up f 14 (nI 0)) Q (by omega) (by rw [vn _ _ (by omega), h4]) (by rw [frj.2.2 139 (by simp), h139]) (by rw [frj.2.2 143 (by simp), h143]) (by rw [vs]; rfl) (qE _ (by omega) (by omega)) (qE _ (by omega) (by omega))
  obtain ⟨f2, Al2, fr2, ex2, x1, x2, x3, x4⟩ := m121_loop2 (L := L) (d := d) (z := z) (A := B5) hx hl hbl hbit hW (wfl_len _ _ _) hF hG (wF K).length 0 (va_up f1 19 (nI 0)) Al1 .null .null .null .null (by omega) (by rw [fr1.2.2 139 (by simp), frj.2.2 139 (by simp), h139]) (by rw [fr1.2.2 143 (by simp), frj.2.2 143 (by simp), h143]) (by rw [vn _ _ (by omega), g14]) g147 g148 (by rw [vs]; rfl) (by rw [fr1.2.2 149 (by simp), qE _ (by omega) (by omega)]; rfl) (by rw [fr1.2.2 150 (by simp), qE _ (by omega) (by omega)]; rfl) (by rw [fr1.2.2 151 (by simp), qE _ (by omega) (by omega)]; rfl)
  refine ⟨f2, B5, Al2, ?_, ?_, ?_, x1, ?_, ?_, x2, x3, x4⟩
  · refine frj.trans (FrM.trans (FrM.trans (FrM.f (k := 14) (x := nI 0) (by simp)) (fr1.mono (by simp) (by simp))) (FrM.trans (FrM.f (k := 19) (x := nI 0) (by simp)) (fr2.mono (by simp) (by simp))))
  · rw [N121 _ ob136, B121_0, M14p, Option.bind_some, ex1, B121_83, M19p, Option.bind_some]
    exact ex2
  · rw [fr2.2.1 14 (by simp), vn _ _ (by omega), g14]
  · rw [fr2.2.2 147 (by simp), g147]
  · rw [fr2.2.2 148 (by simp), g148]
end
