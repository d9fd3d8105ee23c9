/-! THE REFERENCE: findWords -/
theorem kgo_ch {bs : List Nat} : ∀ (r p : Nat) (T : CT) (K : KT), (∀ x ∈ K 139, x ≤ 126) → ∀ x ∈ kgo bs r p T K 139, x ≤ 126 := by
  intro r
  induction r with
  | zero => intro p T K h; exact h
  | succ r ih =>
    intro p T K h
    unfold kgo
    split
    · cases hs : cStep bs p T with
      | none => exact h
      | some nT =>
        obtain ⟨n, T'⟩ := nT
        refine ih (p + n) T' _ ?_
        obtain ⟨c, hc, c1, c2, hk⟩ := cStep_kind hs
        unfold kStep
        split
        · exact h
        · intro x hx
          have hx : x ∈ K 139 ++ [kCh bs p] := hx
          rcases List.mem_append.mp hx with q | q
          · exact h x q
          · rw [List.mem_singleton.mp q]
            by_cases q : c = 38
            · subst q
              rcases kCh_38 hc with e | e | e <;> omega
            · rw [kCh_c hc q]; exact c2
    · exact h
theorem kread_ch (bs : List Nat) : ∀ x ∈ kread bs 139, x ≤ 126 := kgo_ch _ _ _ _ (fun x hx => by cases hx)
def BitL (l : List Nat) : Prop := ∀ x ∈ l, x ≤ 1
theorem BitL.app {l : List Nat} {x : Nat} (h : BitL l) (hx : x ≤ 1) : BitL (l ++ [x]) := by
  intro y hy
  rcases List.mem_append.mp hy with q | q
  · exact h y q
  · rw [List.mem_singleton.mp q]; exact hx
theorem BitL.set {l : List Nat} {k x : Nat} (h : BitL l) (hx : x ≤ 1) : BitL (l.set k x) := by
  intro y hy
  rcases List.mem_or_eq_of_mem_set hy with q | q
  · exact h y q
  · rw [q]; exact hx
theorem BitL.at {l : List Nat} (h : BitL l) (i : Nat) : l.getD i 0 ≤ 1 := by
  by_cases q : i < l.length
  · rw [gD q]; exact h _ (List.getElem_mem _)
  · rw [gDn (by omega)]; omega
theorem kgo_bit {bs : List Nat} : ∀ (r p : Nat) (T : CT) (K : KT), (BitL (K 142) ∧ BitL (K 143) ∧ BitL (K 146)) → BitL (kgo bs r p T K 142) ∧ BitL (kgo bs r p T K 143) ∧ BitL (kgo bs r p T K 146) := by
  intro r
  induction r with
  | zero => intro p T K h; exact h
  | succ r ih =>
    intro p T K h
    unfold kgo
    split
    · cases hs : cStep bs p T with
      | none => exact h
      | some nT =>
        obtain ⟨n, T'⟩ := nT
        refine ih (p + n) T' _ ?_
        unfold kStep
        split
        · refine ⟨h.1.set (Nat.le_refl _), ?_, h.2.2.app (by split <;> omega)⟩
          show BitL (if _ then _ else _)
          split
          · exact h.2.1.set (Nat.le_refl _)
          · exact h.2.1
        · exact ⟨h.1.app (by omega), h.2.1.app (by omega), h.2.2⟩
    · exact h
theorem kread_bit (bs : List Nat) : BitL (kread bs 142) ∧ BitL (kread bs 143) ∧ BitL (kread bs 146) := kgo_bit _ _ _ _ ⟨fun x hx => by rw [List.mem_singleton.mp hx]; omega, fun x hx => by rw [List.mem_singleton.mp hx]; omega, fun x hx => by cases hx⟩
theorem wfl_len (ch bk : Nat → Nat) : ∀ n, (wfl ch bk n).2.length = (wfl ch bk n).1.length := by
  intro n
  induction n with
  | zero => rfl
  | succ n ih =>
    unfold wfl
    split
    · split
      · simp only [List.length_set]; exact ih
      · simp only [List.length_append, ih, List.length_cons, List.length_nil]
    · exact ih
theorem wfl_mono (ch bk : Nat → Nat) : ∀ n m, m ≤ n → (wfl ch bk m).1.length ≤ (wfl ch bk n).1.length := by
  intro n
  induction n with
  | zero => intro m hm; rw [Nat.le_zero.mp hm]; exact Nat.le_refl _
  | succ n ih =>
    intro m hm
    by_cases h : m = n + 1
    · rw [h]; exact Nat.le_refl _
    · refine Nat.le_trans (ih m (by omega)) ?_
      conv => rhs; unfold wfl
      split
      · split
        · exact Nat.le_refl _
        · simp only [List.length_append]; omega
      · exact Nat.le_refl _
theorem wfl_pos {ch bk : Nat → Nat} {n : Nat} (h : n ≠ 0) (hw : isWd (ch (n - 1)) = true) : (wfl ch bk n).1.length ≠ 0 := by
  induction n with
  | zero => exact absurd rfl h
  | succ n ih =>
    rw [Nat.add_sub_cancel] at hw
    unfold wfl
    rw [if_pos hw]
    split
    · rename_i q
      exact ih q.1 q.2.1
    · simp only [List.length_append, List.length_cons]; omega
theorem any_succ (f : Nat → Bool) (i : Nat) : (List.range (i + 1)).any f = ((List.range i).any f || f i) := by
  rw [List.range_succ, List.any_append]
  simp
theorem bI_or (a b : Bool) : bI (a || b) = if a = true then nI 1 else bI b := by
  cases a <;> rfl
section
variable {L d : Nat} {z : zS} {A : Nat → Nat → Int32}
theorem m120 {f : Nat → Int32} {Al K : KT} {i : Nat} (h4 : f 4 = nI (K 139).length) (h139 : Al 139 = K 139) (hx : ∀ x ∈ K 139, x ≤ 126) (hl : (K 139).length ≤ 1000) (hi : i ≤ 2000) : zden L (d + 3) 120 [.ref 136, .int (nI i)] (ms z f A Al) = some (bI (decide (i < (K 139).length) && isWd (chK K i)), ms z f A Al) := by
  rw [N120 _ _ ob136, B120_0, iT (by omega) (by omega), if_neg (by omega), B120_4, M4r, Option.bind_some, h4, iL (by omega) (by omega)]
  by_cases e : (K 139).length ≤ i
  · rw [if_pos e, B120_28, B120_29, iO0, decide_eq_false (by omega), Bool.false_and]; rfl
  · have hm : (K 139).getD i 0 ≤ 126 := by rw [gD (by omega)]; exact hx _ (List.getElem_mem _)
    rw [if_neg e, B120_12, J136_5, Option.bind_some, L139 (by rw [h139]; omega) (by omega), Option.bind_some, h139, decide_eq_true (by omega), Bool.true_and, ← ozs, m112 (fun k q => by cases q; omega), Option.bind_some, iB]
    show (if isWd (chK K i) = true then _ else _) = _
    by_cases e2 : isWd (chK K i) = true
    · rw [if_pos e2, e2, B120_24, B120_29, iO1]; rfl
    · rw [if_neg e2, show isWd (chK K i) = false from by simpa using e2, B120_28, B120_29, iO0]; rfl
theorem m120n {f : Nat → Int32} {Al : KT} : zden L (d + 3) 120 [.ref 136, .int (nI 0 - nI 1)] (ms z f A Al) = some (bI false, ms z f A Al) := by
  rw [N120 _ _ ob136, B120_0, if_pos (by decide), B120_28, B120_29, iO0]; rfl
theorem m121_loop1 {K : KT} (hx : ∀ x ∈ K 139, x ≤ 126) (hl : (K 139).length ≤ 1000) (hbl : (K 143).length = (K 139).length + 1) (hbit : BitL (K 143)) (hW : (wF K).length ≤ 300) {v2 v3 v4 v5 : Value} : ∀ (r s : Nat) (f : Nat → Int32) (Al : KT), s + r = (K 139).length → f 4 = nI (K 139).length → Al 139 = K 139 → Al 143 = K 143 → f 14 = nI (wfl (chK K) (bkK K) s).1.length → Al 147 = (wfl (chK K) (bkK K) s).1 → Al 148 = (wfl (chK K) (bkK K) s).2 →
    ∃ f' Al', FrM [14] [147, 148] f A Al f' A Al' ∧ xruns (O2 L) (zden L (d + 3)) 121 7 [.ref 136, .int (nI s), v2, v3, v4, v5] [] (ms z f A Al) = xruns (O2 L) (zden L (d + 3)) 121 83 [.ref 136, .int (nI (K 139).length), v2, v3, v4, v5] [] (ms z f' A Al') ∧ f' 14 = nI (wF K).length ∧ Al' 147 = wF K ∧ Al' 148 = wL K := by
  intro r
  induction r with
  | zero =>
    intro s f Al hs h4 h139 h143 h14 h147 h148
    have : s = (K 139).length := by omega
    subst this
    exact ⟨f, Al, FrM.refl, by rw [B121_7, M4r, Option.bind_some, h4, iL (by omega) (by omega), if_pos (by omega)], h14, h147, h148⟩
  | succ r ih =>
    intro s f Al hs h4 h139 h143 h14 h147 h148
    have mono := wfl_mono (chK K) (bkK K) (K 139).length (s + 1) (by omega)
    have lenE := wfl_len (chK K) (bkK K) s
    have hWn : (wfl (chK K) (bkK K) (K 139).length).1.length ≤ 300 := hW
    have e1 : xruns (O2 L) (zden L (d + 3)) 121 7 [.ref 136, .int (nI s), v2, v3, v4, v5] [] (ms z f A Al) = if isWd (chK K s) = true then xruns (O2 L) (zden L (d + 3)) 121 26 [.ref 136, .int (nI s), v2, v3, v4, v5] [] (ms z f A Al) else xruns (O2 L) (zden L (d + 3)) 121 7 [.ref 136, .int (nI (s + 1)), v2, v3, v4, v5] [] (ms z f A Al) := by
      rw [B121_7, M4r, Option.bind_some, h4, iL (by omega) (by omega), if_neg (by omega), B121_15, m120 h4 h139 hx hl (by omega), Option.bind_some, iB, decide_eq_true (by omega), Bool.true_and, B121_23, B121_77, nI_add]
    rw [e1]
    have ew : wfl (chK K) (bkK K) (s + 1) = if isWd (chK K s) = true then (if s ≠ 0 ∧ isWd (chK K (s - 1)) = true ∧ bkK K s = 0 then ((wfl (chK K) (bkK K) s).1, (wfl (chK K) (bkK K) s).2.set ((wfl (chK K) (bkK K) s).2.length - 1) s) else ((wfl (chK K) (bkK K) s).1 ++ [s], (wfl (chK K) (bkK K) s).2 ++ [s])) else wfl (chK K) (bkK K) s := by
      conv => lhs; unfold wfl
    by_cases hw : isWd (chK K s) = true
    · rw [if_pos hw] at ew ⊢
      have e2 : xruns (O2 L) (zden L (d + 3)) 121 26 [.ref 136, .int (nI s), v2, v3, v4, v5] [] (ms z f A Al) = if s ≠ 0 ∧ isWd (chK K (s - 1)) = true ∧ bkK K s = 0 then xruns (O2 L) (zden L (d + 3)) 121 65 [.ref 136, .int (nI s), v2, v3, v4, v5] [] (ms z f A Al) else xruns (O2 L) (zden L (d + 3)) 121 45 [.ref 136, .int (nI s), v2, v3, v4, v5] [] (ms z f A Al) := by
        rw [B121_26]
        by_cases s0 : s = 0
        · subst s0
          rw [m120n, Option.bind_some, iB, if_neg (by decide), if_neg (fun q => q.1 rfl)]
        · rw [pk_sub (by omega), m120 h4 h139 hx hl (by omega), Option.bind_some, iB, decide_eq_true (by omega), Bool.true_and]
          by_cases q1 : isWd (chK K (s - 1)) = true
          · rw [if_pos q1, B121_36, J136_9, Option.bind_some, L143 (by rw [h143]; omega) (by omega), Option.bind_some, h143]
            show (if nI (bkK K s) = nI 0 then _ else _) = _
            by_cases q2 : bkK K s = 0
            · rw [q2, if_pos rfl, if_pos ⟨s0, q1, rfl⟩]
            · have := hbit.at s
              rw [iE (show bkK K s < 2 ^ 31 from by unfold bkK; omega) (by omega), if_neg q2, if_neg (fun q => q2 q.2.2)]
          · rw [if_neg q1, if_neg (fun q => q1 q.2.1)]
      rw [e2]
      by_cases q : s ≠ 0 ∧ isWd (chK K (s - 1)) = true ∧ bkK K s = 0
      · have pos := wfl_pos (bk := bkK K) q.1 q.2.1
        rw [if_pos q] at ew ⊢
        rw [B121_65, J136_16, Option.bind_some, M14r, Option.bind_some, h14, pk_sub (by omega), U148 s (by rw [h148]; omega) (by rw [ew] at mono; simp only at mono; omega), Option.bind_some, B121_77, nI_add]
        obtain ⟨f', Al', fr, ex, g1, g2, g3⟩ := ih (s + 1) f (va_up Al 148 ((Al 148).set ((wfl (chK K) (bkK K) s).1.length - 1) s)) (by omega) h4 (by rw [vn _ _ (by omega), h139]) (by rw [vn _ _ (by omega), h143]) (by rw [h14, ew]) (by rw [vn _ _ (by omega), h147, ew]) (by rw [vs, h148, ew, lenE])
        exact ⟨f', Al', FrM.trans (FrM.a (by simp)) fr, ex, g1, g2, g3⟩
      · rw [if_neg q] at ew ⊢
        rw [ew] at mono
        simp only [List.length_append, List.length_cons, List.length_nil] at mono
        rw [B121_45, J136_15, Option.bind_some, M14r, Option.bind_some, h14, A147 s (by rw [h147]) (by omega), Option.bind_some, M14r, Option.bind_some, M14p, Option.bind_some, h14, nI_add, B121_65, J136_16, Option.bind_some, M14r, Option.bind_some, vs, pk_sub (by omega), Nat.add_sub_cancel, A148 s (by rw [vn _ _ (by omega), h148, lenE]) (by omega), Option.bind_some, B121_77, nI_add]
        obtain ⟨f', Al', fr, ex, g1, g2, g3⟩ := ih (s + 1) (va_up f 14 (nI ((wfl (chK K) (bkK K) s).1.length + 1))) (va_up (va_up Al 147 (Al 147 ++ [s])) 148 (va_up Al 147 (Al 147 ++ [s]) 148 ++ [s])) (by omega) (by rw [vn _ _ (by omega), h4]) (by rw [vn _ _ (by omega), vn _ _ (by omega), h139]) (by rw [vn _ _ (by omega), vn _ _ (by omega), h143]) (by rw [vs, ew, List.length_append]; rfl) (by rw [vn _ _ (by omega), vs, h147, ew]) (by rw [vs, vn _ _ (by omega), h148, ew])
        exact ⟨f', Al', ((((FrM.f (by simp)).trans (FrM.a (by simp))).trans (FrM.a (by simp))).trans fr), ex, g1, g2, g3⟩
    · rw [if_neg hw] at ew ⊢
      exact ih (s + 1) f Al (by omega) h4 h139 h143 (by rw [h14, ew]) (by rw [h147, ew]) (by rw [h148, ew])
/-- between two words -/
theorem m121_step {K : KT} (hx : ∀ x ∈ K 139, x ≤ 126) (hl : (K 139).length ≤ 1000) (hbl : (K 143).length = (K 139).length + 1) (hbit : BitL (K 143)) {f : Nat → Int32} {Al : KT} {w s b : Nat} (h139 : Al 139 = K 139) (h143 : Al 143 = K 143) (h147 : w < (Al 147).length) (hw : w < 300) (hb : (Al 147).getD w 0 = b) (hs : s ≤ b) (hbn : b < (K 139).length) (B1 B2 : Bool) (v5 : Value) :
    xruns (O2 L) (zden L (d + 3)) 121 118 [.ref 136, .int (nI w), .int (bI B1), .int (bI B2), .int (nI s), v5] [] (ms z f A Al) = xruns (O2 L) (zden L (d + 3)) 121 118 [.ref 136, .int (nI w), .int (bI (B1 || decide (bkK K s = 1))), .int (bI (B2 || (decide (s < b) && spB (chK K s) && decide (chK K (s + 1) = 32)))), .int (nI (s + 1)), .int (nI (chK K s))] [] (ms z f A Al) := by
  have bk1 := hbit.at s
  have chm : ∀ j, j < (K 139).length → chK K j ≤ 126 := fun j hj => by unfold chK; rw [gD hj]; exact hx _ (List.getElem_mem _)
  have c1 := chm s (by omega)
  have tail : ∀ B1 B2 : Bool, xruns (O2 L) (zden L (d + 3)) 121 213 [.ref 136, .int (nI w), .int (bI B1), .int (bI B2), .int (nI s), .int (nI (chK K s))] [.int (bI (B2 || (decide (s < b) && spB (chK K s) && decide (chK K (s + 1) = 32))))] (ms z f A Al) = xruns (O2 L) (zden L (d + 3)) 121 118 [.ref 136, .int (nI w), .int (bI B1), .int (bI (B2 || (decide (s < b) && spB (chK K s) && decide (chK K (s + 1) = 32)))), .int (nI (s + 1)), .int (nI (chK K s))] [] (ms z f A Al) := by
    intro B1 B2
    rw [B121_213, nI_add]
  have st : ∀ B1 B2 : Bool, xruns (O2 L) (zden L (d + 3)) 121 148 [.ref 136, .int (nI w), .int (bI B2), .int (bI B2), .int (nI s), v5] [.int (bI B1)] (ms z f A Al) = xruns (O2 L) (zden L (d + 3)) 121 148 [.ref 136, .int (nI w), .int (bI B2), .int (bI B2), .int (nI s), v5] [.int (bI B1)] (ms z f A Al) := fun _ _ => rfl
  have stops : ∀ (x2 : Int32) (B1 : Bool), xruns (O2 L) (zden L (d + 3)) 121 148 [.ref 136, .int (nI w), .int x2, .int (bI B2), .int (nI s), v5] [.int (bI B1)] (ms z f A Al) = xruns (O2 L) (zden L (d + 3)) 121 118 [.ref 136, .int (nI w), .int (bI B1), .int (bI (B2 || (decide (s < b) && spB (chK K s) && decide (chK K (s + 1) = 32)))), .int (nI (s + 1)), .int (nI (chK K s))] [] (ms z f A Al) := by
    intro x2 B1
    rw [← tail, B121_148, J136_5, Option.bind_some, L139 (by rw [h139]; omega) (by omega), Option.bind_some, h139, iB]
    show (if B2 = true then xruns (O2 L) (zden L (d + 3)) 121 208 [.ref 136, .int (nI w), .int (bI B1), .int (bI B2), .int (nI s), .int (nI (chK K s))] [] (ms z f A Al) else xruns (O2 L) (zden L (d + 3)) 121 162 [.ref 136, .int (nI w), .int (bI B1), .int (bI B2), .int (nI s), .int (nI (chK K s))] [] (ms z f A Al)) = _
    have no : B2 = false → (decide (s < b) && spB (chK K s) && decide (chK K (s + 1) = 32)) = false → xruns (O2 L) (zden L (d + 3)) 121 212 [.ref 136, .int (nI w), .int (bI B1), .int (bI B2), .int (nI s), .int (nI (chK K s))] [] (ms z f A Al) = xruns (O2 L) (zden L (d + 3)) 121 213 [.ref 136, .int (nI w), .int (bI B1), .int (bI B2), .int (nI s), .int (nI (chK K s))] [.int (bI (B2 || (decide (s < b) && spB (chK K s) && decide (chK K (s + 1) = 32))))] (ms z f A Al) := by
      intro q1 q2
      rw [B121_212, q2, q1]; rfl
    cases B2 with
    | true =>
      rw [if_pos rfl, B121_208, Bool.true_or]; rfl
    | false =>
      rw [if_neg (by decide), B121_162, J136_15, Option.bind_some, L147 h147 hw, Option.bind_some, hb, iL (by omega) (by omega)]
      by_cases e1 : b ≤ s
      · rw [if_pos e1, no rfl (by rw [decide_eq_false (by omega)]; rfl)]
      · have c2 := chm (s + 1) (by omega)
        rw [if_neg e1, B121_173, iE (by omega) (by omega)]
        have e194 : spB (chK K s) = true → xruns (O2 L) (zden L (d + 3)) 121 194 [.ref 136, .int (nI w), .int (bI B1), .int (bI false), .int (nI s), .int (nI (chK K s))] [] (ms z f A Al) = xruns (O2 L) (zden L (d + 3)) 121 213 [.ref 136, .int (nI w), .int (bI B1), .int (bI false), .int (nI s), .int (nI (chK K s))] [.int (bI (false || (decide (s < b) && spB (chK K s) && decide (chK K (s + 1) = 32))))] (ms z f A Al) := by
          intro q
          rw [B121_194, J136_5, Option.bind_some, nI_add, L139 (by rw [h139]; omega) (by omega), Option.bind_some, h139]
          show (if nI (chK K (s + 1)) = nI 32 then _ else _) = _
          rw [iE (by omega) (by omega)]
          by_cases e3 : chK K (s + 1) = 32
          · rw [if_pos e3, B121_208, q, decide_eq_true e3, decide_eq_true (by omega : s < b)]; rfl
          · rw [if_neg e3, no rfl (by rw [decide_eq_false e3, Bool.and_false])]
        by_cases e2 : chK K s = 46
        · rw [if_pos e2, e194 (by rw [e2]; rfl)]
        · rw [if_neg e2, B121_180, iE (by omega) (by omega)]
          by_cases e3 : chK K s = 33
          · rw [if_pos e3, e194 (by rw [e3]; rfl)]
          · rw [if_neg e3, B121_187, iE (by omega) (by omega)]
            by_cases e4 : chK K s = 63
            · rw [if_pos e4, e194 (by rw [e4]; rfl)]
            · have : spB (chK K s) = false := by
                unfold spB
                rw [decide_eq_false e2, decide_eq_false e3, decide_eq_false e4]; rfl
              rw [if_neg e4, no rfl (by rw [this, Bool.and_false, Bool.false_and])]
  rw [B121_118, J136_15, Option.bind_some, L147 h147 hw, Option.bind_some, hb, iT (by omega) (by omega), if_neg (by omega), B121_129, iB]
  cases B1 with
  | true => rw [if_pos rfl, B121_143, Bool.true_or]; exact stops _ true
  | false =>
    rw [if_neg (by decide), B121_133, J136_9, Option.bind_some, L143 (by rw [h143]; omega) (by omega), Option.bind_some, h143]
    show (if nI (bkK K s) = nI 0 then _ else _) = _
    rw [iE (show bkK K s < 2 ^ 31 from by unfold bkK; omega) (by omega)]
    by_cases q : bkK K s = 0
    · rw [if_pos q, B121_147, decide_eq_false (by omega)]; exact stops _ false
    · rw [if_neg q, B121_143, decide_eq_true (show bkK K s = 1 by unfold bkK at q ⊢; omega)]; exact stops _ true
theorem m121_in {K : KT} (hx : ∀ x ∈ K 139, x ≤ 126) (hl : (K 139).length ≤ 1000) (hbl : (K 143).length = (K 139).length + 1) (hbit : BitL (K 143)) {f : Nat → Int32} {Al : KT} {w a b : Nat} (h139 : Al 139 = K 139) (h143 : Al 143 = K 143) (h147 : w < (Al 147).length) (hw : w < 300) (hb : (Al 147).getD w 0 = b) (hab : a < b) (hbn : b < (K 139).length) : ∀ (r i : Nat) (v5 : Value), i + r = b - a →
    ∃ y4 y5, xruns (O2 L) (zden L (d + 3)) 121 118 [.ref 136, .int (nI w), .int (bI ((List.range i).any (fun i => decide (bkK K (a + 1 + i) = 1)))), .int (bI ((List.range (min i (b - a - 1))).any (fun i => spB (chK K (a + 1 + i)) && decide (chK K (a + 1 + i + 1) = 32)))), .int (nI (a + 1 + i)), v5] [] (ms z f A Al) = xruns (O2 L) (zden L (d + 3)) 121 220 [.ref 136, .int (nI w), .int (bI ((List.range (b - a)).any (fun i => decide (bkK K (a + 1 + i) = 1)))), .int (bI ((List.range (b - a - 1)).any (fun i => spB (chK K (a + 1 + i)) && decide (chK K (a + 1 + i + 1) = 32)))), y4, y5] [] (ms z f A Al) := by
  intro r
  induction r with
  | zero =>
    intro i v5 hi
    have : i = b - a := by omega
    subst this
    rw [show min (b - a) (b - a - 1) = b - a - 1 by omega, B121_118, J136_15, Option.bind_some, L147 h147 hw, Option.bind_some, hb, iT (by omega) (by omega), if_pos (by omega)]
    exact ⟨_, _, rfl⟩
  | succ r ih =>
    intro i v5 hi
    rw [m121_step hx hl hbl hbit h139 h143 h147 hw hb (by omega) hbn]
    obtain ⟨y4, y5, e⟩ := ih (i + 1) (.int (nI (chK K (a + 1 + i)))) (by omega)
    refine ⟨y4, y5, ?_⟩
    rw [← e, any_succ]
    congr 5
    rw [show min (i + 1) (b - a - 1) = if i < b - a - 1 then min i (b - a - 1) + 1 else min i (b - a - 1) by split <;> omega]
    congr 2
    by_cases q : i < b - a - 1
    · rw [if_pos q, any_succ, show min i (b - a - 1) = i by omega, decide_eq_true (by omega : a + 1 + i < b), Bool.true_and]
    · rw [if_neg q, decide_eq_false (by omega : ¬ a + 1 + i < b), Bool.false_and, Bool.false_and, Bool.or_false]
end
