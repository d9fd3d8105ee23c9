/-! EVALUATION: findLit -/
theorem up_comm {α : Type} (f : Nat → α) {i j : Nat} (h : i ≠ j) (a b : α) : va_up (va_up f i a) j b = va_up (va_up f j b) i a := by
  funext k
  unfold va_up
  by_cases h1 : k = j
  · by_cases h2 : k = i
    · omega
    · rw [if_pos h1, if_neg h2, if_pos h1]
  · rw [if_neg h1]
    by_cases h2 : k = i
    · rw [if_pos h2, if_pos h2]
    · rw [if_neg h2, if_neg h2, if_neg h1]
section
variable {L d : Nat} {z : zS} {T Q : CT} {t q : Nat}
theorem x6 {M : CT} {tr : Nat → Bool} {n : Nat} (hn : n ≤ 400) (hM : M.1 12 = (List.range n).map (fun k => bN (tr k))) : zden L (d + 2) 6 [.ref 4] (putM z M) = some (nI (if n = 0 then 0 else bN (tr 0)), putM z M) := by
  rw [N6 _ ob4, B6_0, J4_14, Option.bind_some, X12s, Option.bind_some, hM, List.length_map, List.length_range, iL (by omega) (by omega)]
  by_cases c : n = 0
  · rw [if_pos (by omega), B6_21, B6_22, if_pos c]
  · rw [if_neg (by omega), B6_10, J4_14, Option.bind_some, X12g, Option.bind_some, B6_22, hM, zget_map (by rw [List.length_map, List.length_range]; omega) (by rw [List.length_map, List.length_range]; omega), map_at (by omega), if_neg c]
theorem x22 {M : CT} {σ : Nat → Sem} {v : Nat → Bool} (h : RO z t q T Q) (pf : PF (Q.1 7) (Q.1 8) (Q.1 9)) (hn : (Q.1 7).length ≤ 400) (hpos : 0 < (Q.1 7).length) (k0 : (Q.1 7)[0]? = some 0) (hσ : ∀ k, k < (Q.1 7).length → ClN (Q.1 7) (Q.1 8) (Q.1 9) (Q.1 6).length σ k) (n12 : (Q.1 6).length ≤ 12) (hM : M.1 12 = (List.range (Q.1 7).length).map (fun k => bN ((σ k).1 v))) :
    ∃ X, zden L (d + 4) 22 [.ref 4] (putM z M) = some (0, putM z (va_up (va_up M.1 13 X) 1 ((List.range (Q.1 6).length).map (fun l => bN ((σ 0).1 v && (σ 0).2 v l))), M.2)) := by
  have p1 := pf.1
  have p2 := pf.2.1
  generalize hlt : lit (Q.1 7) (Q.1 8) (fun k => (σ k).1 v) = lt at *
  have l0 : lt 0 = (σ 0).1 v := by rw [← hlt]; rfl
  have loop : ∀ (r m : Nat) (v3 v4 : Value), 1 ≤ m → m + r = (Q.1 7).length → xruns (O2 L) (zden L (d + 3)) 22 49 [.ref 4, .int (nI (Q.1 7).length), .int (nI m), v3, v4] [] (putM z (va_up (va_up M.1 13 ((List.range (Q.1 7).length).map (fun k => if k < m then bN (lt k) else 0))) 1 ((List.range (Q.1 6).length).map (fun l => bN ((List.range m).any (fun k => lt k && decide ((Q.1 9).getD k 0 = l))))), M.2)) = some (0, putM z (va_up (va_up M.1 13 ((List.range (Q.1 7).length).map (fun k => if k < (Q.1 7).length then bN (lt k) else 0))) 1 ((List.range (Q.1 6).length).map (fun l => bN ((List.range (Q.1 7).length).any (fun k => lt k && decide ((Q.1 9).getD k 0 = l))))), M.2)) := by
    intro r
    induction r with
    | zero =>
      intro m v3 v4 m1 hm
      have : m = (Q.1 7).length := by omega
      subst this
      rw [B22_49, iL (by omega) (by omega), if_pos (Nat.le_refl _), B22_160]
    | succ r ih =>
      intro m v3 v4 m1 hm
      have ml : m < (Q.1 7).length := by omega
      have hm8 : m < (Q.1 8).length := by omega
      obtain ⟨e1, e2⟩ := lit_s pf (tr := fun k => (σ k).1 v) ml (by omega)
      rw [hlt] at e1
      have hp : (Q.1 8).getD m 0 < (Q.1 7).length := by omega
      have set13 : ((List.range (Q.1 7).length).map (fun k => if k < m then bN (lt k) else 0)).set m (bN (lt m)) = (List.range (Q.1 7).length).map (fun k => if k < m + 1 then bN (lt k) else 0) := by
        have := map_set (n := (Q.1 7).length) (p := m) (f := fun k => if k < m then bN (lt k) else 0) (g := fun k => if k < m + 1 then bN (lt k) else 0) (fun k hk hne => by
          show (if k < m then _ else _) = (if k < m + 1 then _ else _)
          by_cases c : k < m
          · rw [if_pos c, if_pos (by omega)]
          · rw [if_neg c, if_neg (by omega)])
        simp only [show m < m + 1 by omega, if_true] at this
        exact this
      have any1 : ∀ l, (List.range (m + 1)).any (fun k => lt k && decide ((Q.1 9).getD k 0 = l)) = ((List.range m).any (fun k => lt k && decide ((Q.1 9).getD k 0 = l)) || (lt m && decide ((Q.1 9).getD m 0 = l))) := fun l => any_succ _ _
      -- what is written
      have e110 : ∀ (v4 : Value), xruns (O2 L) (zden L (d + 3)) 22 110 [.ref 4, .int (nI (Q.1 7).length), .int (nI m), .int (nI ((Q.1 8).getD m 0)), v4] [.int (bI (lt m))] (putM z (va_up (va_up M.1 13 ((List.range (Q.1 7).length).map (fun k => if k < m then bN (lt k) else 0))) 1 ((List.range (Q.1 6).length).map (fun l => bN ((List.range m).any (fun k => lt k && decide ((Q.1 9).getD k 0 = l))))), M.2)) = xruns (O2 L) (zden L (d + 3)) 22 154 [.ref 4, .int (nI (Q.1 7).length), .int (nI m), .int (nI ((Q.1 8).getD m 0)), .int (bI (lt m))] [] (putM z (va_up (va_up M.1 13 ((List.range (Q.1 7).length).map (fun k => if k < m + 1 then bN (lt k) else 0))) 1 ((List.range (Q.1 6).length).map (fun l => bN ((List.range (m + 1)).any (fun k => lt k && decide ((Q.1 9).getD k 0 = l))))), M.2)) := by
        intro v4
        have w13 : ∀ x : Nat, x = bN (lt m) → zden L (d + 3) 58 [.ref 76, .int (nI m), .int (nI x)] (putM z (va_up (va_up M.1 13 ((List.range (Q.1 7).length).map (fun k => if k < m then bN (lt k) else 0))) 1 ((List.range (Q.1 6).length).map (fun l => bN ((List.range m).any (fun k => lt k && decide ((Q.1 9).getD k 0 = l))))), M.2)) = some (0, putM z (va_up (va_up M.1 13 ((List.range (Q.1 7).length).map (fun k => if k < m + 1 then bN (lt k) else 0))) 1 ((List.range (Q.1 6).length).map (fun l => bN ((List.range m).any (fun k => lt k && decide ((Q.1 9).getD k 0 = l))))), M.2)) := by
          intro x hx
          rw [up_comm _ (show (13 : Nat) ≠ 1 by omega), Y13w (by rw [List.length_map, List.length_range]; exact ml) (by rw [List.length_map, List.length_range]; exact hn), hx, set13, up_comm _ (show (1 : Nat) ≠ 13 by omega)]
        rw [B22_110, J4_15, Option.bind_some, iB]
        cases hl : lt m with
        | false =>
          rw [hl] at any1
          rw [if_neg (by decide), B22_126, B22_127, w13 0 (by rw [hl]; rfl), Option.bind_some, if_pos (show bI false = nI 0 from rfl)]
          have same : (List.range (Q.1 6).length).map (fun l => bN ((List.range m).any (fun k => lt k && decide ((Q.1 9).getD k 0 = l)))) = (List.range (Q.1 6).length).map (fun l => bN ((List.range (m + 1)).any (fun k => lt k && decide ((Q.1 9).getD k 0 = l)))) := List.map_congr_left (fun l _ => by rw [any1 l, Bool.false_and, Bool.or_false])
          rw [same]
        | true =>
          rw [hl] at any1
          obtain ⟨κ, φ, h1, h2, h3, h4, h5, h6, h7⟩ := hσ m ml
          have e135 : xruns (O2 L) (zden L (d + 3)) 22 110 [.ref 4, .int (nI (Q.1 7).length), .int (nI m), .int (nI ((Q.1 8).getD m 0)), v4] [.int (bI true)] (putM z (va_up (va_up M.1 13 ((List.range (Q.1 7).length).map (fun k => if k < m then bN (lt k) else 0))) 1 ((List.range (Q.1 6).length).map (fun l => bN ((List.range m).any (fun k => lt k && decide ((Q.1 9).getD k 0 = l))))), M.2)) = xruns (O2 L) (zden L (d + 3)) 22 110 [.ref 4, .int (nI (Q.1 7).length), .int (nI m), .int (nI ((Q.1 8).getD m 0)), v4] [.int (bI true)] (putM z (va_up (va_up M.1 13 ((List.range (Q.1 7).length).map (fun k => if k < m then bN (lt k) else 0))) 1 ((List.range (Q.1 6).length).map (fun l => bN ((List.range m).any (fun k => lt k && decide ((Q.1 9).getD k 0 = l))))), M.2)) := rfl
          rw [if_pos rfl, B22_122, B22_127, w13 1 (by rw [hl]; rfl), Option.bind_some, if_neg (by decide), B22_135, J4_3, Option.bind_some, XP1 h, Option.bind_some, R3_9 h.2.1, Option.bind_some, XQ9g h, Option.bind_some, zget_map (by omega) (by omega), gDo h2]
          by_cases c3 : κ = 3
          · have φl := (h6 c3).1
            have gφ : (Q.1 9).getD m 0 = φ := gDo h2
            have set1 : ((List.range (Q.1 6).length).map (fun l => bN ((List.range m).any (fun k => lt k && decide ((Q.1 9).getD k 0 = l))))).set φ 1 = (List.range (Q.1 6).length).map (fun l => bN ((List.range (m + 1)).any (fun k => lt k && decide ((Q.1 9).getD k 0 = l)))) := by
              have := map_set (n := (Q.1 6).length) (p := φ) (f := fun l => bN ((List.range m).any (fun k => lt k && decide ((Q.1 9).getD k 0 = l)))) (g := fun l => bN ((List.range (m + 1)).any (fun k => lt k && decide ((Q.1 9).getD k 0 = l)))) (fun l hl2 hne => by
                show bN _ = bN _
                rw [any1 l, gφ, decide_eq_false (fun q => hne q.symm), Bool.and_false, Bool.or_false])
              rw [any1 φ, gφ, decide_eq_true rfl, Bool.true_and, Bool.or_true] at this
              exact this
            show ((zden L (d + 3) 58 [.ref 52, .int (nI φ), .int (nI 1)] _).bind _) = _
            rw [Y1w (by rw [List.length_map, List.length_range]; exact φl) (by rw [List.length_map, List.length_range]; omega), Option.bind_some, set1]
          · have φb := h7 c3
            have gφ : (Q.1 9).getD m 0 = BAD32 := by rw [gDo h2, φb]
            have bb : BAD32 = 4294967295 := rfl
            rw [φb, nI_BAD, N58 rfl]
            have zs : ∀ xs : List Int32, zset xs (-1) (nI 1) = xs := fun xs => if_pos (by decide)
            rw [zs, Option.bind_some]
            have same : zrs (putM z (va_up (va_up M.1 13 ((List.range (Q.1 7).length).map (fun k => if k < m + 1 then bN (lt k) else 0))) 1 ((List.range (Q.1 6).length).map (fun l => bN ((List.range m).any (fun k => lt k && decide ((Q.1 9).getD k 0 = l))))), M.2)) 52 ((putM z (va_up (va_up M.1 13 ((List.range (Q.1 7).length).map (fun k => if k < m + 1 then bN (lt k) else 0))) 1 ((List.range (Q.1 6).length).map (fun l => bN ((List.range m).any (fun k => lt k && decide ((Q.1 9).getD k 0 = l))))), M.2)).1 52) = putM z (va_up (va_up M.1 13 ((List.range (Q.1 7).length).map (fun k => if k < m + 1 then bN (lt k) else 0))) 1 ((List.range (Q.1 6).length).map (fun l => bN ((List.range (m + 1)).any (fun k => lt k && decide ((Q.1 9).getD k 0 = l))))), M.2) := by
              unfold zrs
              rw [vi]
              show putM z (_, _) = _
              congr 3
              refine List.map_congr_left (fun l hl2 => ?_)
              have hl2 := List.mem_range.mp hl2
              rw [any1 l, gφ, decide_eq_false (by omega), Bool.and_false, Bool.or_false]
            show xruns _ _ _ _ _ _ (zrs _ 52 _) = _
            rw [same]
      have g13 : zden L (d + 3) 56 [.ref 76, .int (nI ((Q.1 8).getD m 0))] (putM z (va_up (va_up M.1 13 ((List.range (Q.1 7).length).map (fun k => if k < m then bN (lt k) else 0))) 1 ((List.range (Q.1 6).length).map (fun l => bN ((List.range m).any (fun k => lt k && decide ((Q.1 9).getD k 0 = l))))), M.2)) = some (nI (bN (lt ((Q.1 8).getD m 0))), putM z (va_up (va_up M.1 13 ((List.range (Q.1 7).length).map (fun k => if k < m then bN (lt k) else 0))) 1 ((List.range (Q.1 6).length).map (fun l => bN ((List.range m).any (fun k => lt k && decide ((Q.1 9).getD k 0 = l))))), M.2)) := by
        rw [up_comm _ (show (13 : Nat) ≠ 1 by omega), Y13g, zget_map (by rw [List.length_map, List.length_range]; exact hp) (by rw [List.length_map, List.length_range]; omega), map_at hp, if_pos e2]
      have g12 : zden L (d + 3) 56 [.ref 74, .int (nI m)] (putM z (va_up (va_up M.1 13 ((List.range (Q.1 7).length).map (fun k => if k < m then bN (lt k) else 0))) 1 ((List.range (Q.1 6).length).map (fun l => bN ((List.range m).any (fun k => lt k && decide ((Q.1 9).getD k 0 = l))))), M.2)) = some (nI (bN ((σ m).1 v)), putM z (va_up (va_up M.1 13 ((List.range (Q.1 7).length).map (fun k => if k < m then bN (lt k) else 0))) 1 ((List.range (Q.1 6).length).map (fun l => bN ((List.range m).any (fun k => lt k && decide ((Q.1 9).getD k 0 = l))))), M.2)) := by
        rw [X12g]
        show some (zget ((M.1 12).map nI) (nI m), _) = _
        rw [hM, zget_map (by rw [List.length_map, List.length_range]; exact ml) (by rw [List.length_map, List.length_range]; omega), map_at ml]
      have to110 : ∃ v4', xruns (O2 L) (zden L (d + 3)) 22 54 [.ref 4, .int (nI (Q.1 7).length), .int (nI m), v3, v4] [] (putM z (va_up (va_up M.1 13 ((List.range (Q.1 7).length).map (fun k => if k < m then bN (lt k) else 0))) 1 ((List.range (Q.1 6).length).map (fun l => bN ((List.range m).any (fun k => lt k && decide ((Q.1 9).getD k 0 = l))))), M.2)) = xruns (O2 L) (zden L (d + 3)) 22 110 [.ref 4, .int (nI (Q.1 7).length), .int (nI m), .int (nI ((Q.1 8).getD m 0)), v4'] [.int (bI (lt m))] (putM z (va_up (va_up M.1 13 ((List.range (Q.1 7).length).map (fun k => if k < m then bN (lt k) else 0))) 1 ((List.range (Q.1 6).length).map (fun l => bN ((List.range m).any (fun k => lt k && decide ((Q.1 9).getD k 0 = l))))), M.2)) := by
        refine ⟨v4, ?_⟩
        have k7 : (Q.1 7).getD ((Q.1 8).getD m 0) 0 ≤ 3 := by
          obtain ⟨κ, φ, h1, h2, h3, h4, h5, h6, h7⟩ := hσ _ hp
          rw [gDo h1]; exact h3
        have b1 := bN_le (lt ((Q.1 8).getD m 0))
        have b2 := bN_le ((σ m).1 v)
        rw [B22_54, XP1 h, Option.bind_some, R3_8 h.2.1, Option.bind_some, XQ8g h, Option.bind_some, zget_map hm8 (by omega), J4_15, Option.bind_some, g13, Option.bind_some, iE (by omega) (by omega)]
        by_cases c1 : bN (lt ((Q.1 8).getD m 0)) = 1
        · rw [if_pos c1, B22_78, XP1 h, Option.bind_some, R3_7 h.2.1, Option.bind_some, XQ7g h, Option.bind_some, zget_map hp (by omega), iE (by omega) (by omega)]
          by_cases c2 : (Q.1 7).getD ((Q.1 8).getD m 0) 0 = 2
          · rw [if_pos c2, B22_109, e1, decide_eq_false (fun q => q c2), Bool.and_false, Bool.false_and]; rfl
          · rw [if_neg c2, B22_93, J4_14, Option.bind_some, g12, Option.bind_some, iE (by omega) (by omega), e1, decide_eq_true c2, (bN_1 _).mp c1, Bool.true_and, Bool.true_and]
            by_cases c4 : bN ((σ m).1 v) = 1
            · rw [if_pos c4, B22_105]
              show _ = xruns _ _ _ _ _ [.int (bI ((σ m).1 v))] _
              rw [(bN_1 _).mp c4]; rfl
            · rw [if_neg c4, B22_109]
              show _ = xruns _ _ _ _ _ [.int (bI ((σ m).1 v))] _
              rw [(bN_0 ((σ m).1 v)).mp (by omega)]; rfl
        · rw [if_neg c1, B22_109, e1, (bN_0 _).mp (show bN (lt ((Q.1 8).getD m 0)) = 0 by omega), Bool.false_and, Bool.false_and]; rfl
      obtain ⟨v4', e54⟩ := to110
      rw [B22_49, iL (by omega) (by omega), if_neg (by omega), e54, e110, B22_154, nI_add]
      exact ih (m + 1) _ _ (by omega) (by omega)
  have hs : ∀ l, l < (Q.1 6).length → (List.range (Q.1 7).length).any (fun k => lt k && decide ((Q.1 9).getD k 0 = l)) = ((σ 0).1 v && (σ 0).2 v l) := by
    intro l hl
    have := lit_sem (v := v) pf hn hpos hσ l hl n12
    rw [hlt] at this
    exact this
  refine ⟨(List.range (Q.1 7).length).map (fun k => if k < (Q.1 7).length then bN (lt k) else 0), ?_⟩
  have fin : (List.range (Q.1 6).length).map (fun l => bN ((List.range (Q.1 7).length).any (fun k => lt k && decide ((Q.1 9).getD k 0 = l)))) = (List.range (Q.1 6).length).map (fun l => bN ((σ 0).1 v && (σ 0).2 v l)) := List.map_congr_left (fun l hl => by rw [hs l (List.mem_range.mp hl)])
  rw [← fin]
  have st := loop ((Q.1 7).length - 1) 1 .null .null (by omega) (by omega)
  have s13 : (List.replicate (Q.1 7).length 0).set 0 (bN (lt 0)) = (List.range (Q.1 7).length).map (fun k => if k < 1 then bN (lt k) else 0) := by
    refine List.ext_getElem (by simp) (fun k h1 h2 => ?_)
    rw [List.getElem_set, List.getElem_map, List.getElem_range, List.getElem_replicate]
    by_cases c : k = 0
    · subst c; rw [if_pos rfl, if_pos (by omega)]
    · rw [if_neg (fun q => c q.symm), if_neg (by omega)]
  have f0 : (Q.1 9).getD 0 0 = BAD32 := by
    obtain ⟨κ, φ, h1, h2, h3, h4, h5, h6, h7⟩ := hσ 0 hpos
    rw [k0] at h1
    cases h1
    rw [gDo h2, h7 (by omega)]
  have bb : BAD32 = 4294967295 := rfl
  have s1 : List.replicate (Q.1 6).length 0 = (List.range (Q.1 6).length).map (fun l => bN ((List.range 1).any (fun k => lt k && decide ((Q.1 9).getD k 0 = l)))) := by
    refine List.ext_getElem (by simp) (fun l h1 h2 => ?_)
    rw [List.length_replicate] at h1
    rw [List.getElem_replicate, List.getElem_map, List.getElem_range]
    show 0 = bN ((lt 0 && decide ((Q.1 9).getD 0 0 = l)) || false)
    rw [f0, decide_eq_false (by omega), Bool.and_false]; rfl
  have e6 := x6 (L := L) (d := d + 1) (z := z) (M := (va_up M.1 13 (List.replicate (Q.1 7).length 0), M.2)) (tr := fun k => (σ k).1 v) hn hM
  rw [if_neg (by omega)] at e6
  rw [N22 _ ob4, B22_0, XP1 h, Option.bind_some, R3_7 h.2.1, Option.bind_some, XQ7s h, Option.bind_some, J4_15, Option.bind_some, X13f hn, Option.bind_some, J4_15, Option.bind_some, e6, Option.bind_some]
  show ((zden L (d + 3) 58 [.ref 76, .int (nI 0), .int (nI (bN ((σ 0).1 v)))] (putM z (va_up M.1 13 (List.replicate (Q.1 7).length 0), M.2))).bind _) = _
  rw [← l0, Y13w (by rw [List.length_replicate]; exact hpos) (by rw [List.length_replicate]; exact hn), Option.bind_some, s13, J4_3, Option.bind_some, XP1 h, Option.bind_some, x38 h, Option.bind_some, X1f n12, Option.bind_some]
  rw [← s1] at st
  exact st
end
