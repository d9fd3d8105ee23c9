/-! EVALUATION: findTruth and findLit -/
theorem TT_par {K P F : List Nat} {σ : Nat → Sem} {v : Nat → Bool} {m p : Nat} (hm : m < P.length) (hp : P[m]? = some p) (k3 : K.getD p 0 ≠ 3) (one : K.getD p 0 = 2 → flC P p (m + 1) = []) : TT K F P σ v p m = if K.getD p 0 = 2 then !(σ m).1 v else if K.getD p 0 = 1 then (TT K F P σ v p (m + 1) && (σ m).1 v) else (TT K F P σ v p (m + 1) || (σ m).1 v) := by
  unfold TT
  rw [flC_s hm, if_pos hp, if_neg k3, if_neg k3]
  by_cases c2 : K.getD p 0 = 2
  · rw [if_pos c2, if_pos c2]
  · rw [if_neg c2, if_neg c2, if_neg c2]
    by_cases c1 : K.getD p 0 = 1
    · rw [if_pos c1, if_pos c1, if_pos c1, List.all_cons, Bool.and_comm]
    · rw [if_neg c1, if_neg c1, if_neg c1, List.any_cons, Bool.or_comm]
section
variable {L d : Nat} {z : zS} {T Q : CT} {t q : Nat}
theorem x21 {M : CT} {σ : Nat → Sem} (h : RO z t q T Q) (pf : PF (Q.1 7) (Q.1 8) (Q.1 9)) (hn : (Q.1 7).length ≤ 400) (hpos : 0 < (Q.1 7).length) (hσ : ∀ k, k < (Q.1 7).length → ClN (Q.1 7) (Q.1 8) (Q.1 9) (Q.1 6).length σ k) (n12 : (Q.1 6).length ≤ 12) (C : Nat → Nat) (hC : M.1 0 = (List.range (Q.1 6).length).map C) (hC3 : ∀ l, C l ≤ 300) :
    zden L (d + 4) 21 [.ref 4] (putM z M) = some (0, putM z (va_up M.1 12 ((List.range (Q.1 7).length).map (fun k => bN ((σ k).1 (fun l => decide (0 < C l))))), M.2)) := by
  have p1 := pf.1
  have p2 := pf.2.1
  generalize hv : (fun l => decide (0 < C l)) = v
  -- the first row of truths
  have first : ∀ (r m : Nat) (v3 v4 v5 : Value), m + r = (Q.1 7).length → ∃ v3' v4' v5', xruns (O2 L) (zden L (d + 3)) 21 22 [.ref 4, .int (nI (Q.1 7).length), .int (nI m), v3, v4, v5] [] (putM z (va_up M.1 12 ((List.range (Q.1 7).length).map (fun k => if k < m then bN (TT (Q.1 7) (Q.1 9) (Q.1 8) σ v k (Q.1 7).length) else 0)), M.2)) = xruns (O2 L) (zden L (d + 3)) 21 101 [.ref 4, .int (nI (Q.1 7).length), .int (nI (Q.1 7).length), v3', v4', v5'] [] (putM z (va_up M.1 12 ((List.range (Q.1 7).length).map (fun k => bN (TT (Q.1 7) (Q.1 9) (Q.1 8) σ v k (Q.1 7).length))), M.2)) := by
    intro r
    induction r with
    | zero =>
      intro m v3 v4 v5 hm
      have : m = (Q.1 7).length := by omega
      subst this
      refine ⟨v3, v4, v5, ?_⟩
      rw [B21_22, iL (by omega) (by omega), if_pos (Nat.le_refl _)]
      congr 4
      refine List.map_congr_left (fun k hk => ?_)
      rw [if_pos (List.mem_range.mp hk)]
    | succ r ih =>
      intro m v3 v4 v5 hm
      have ml : m < (Q.1 7).length := by omega
      obtain ⟨κ, φ, h1, h2, h3, h4, h5, h6, h7⟩ := hσ m ml
      have eT : TT (Q.1 7) (Q.1 9) (Q.1 8) σ v m (Q.1 7).length = (decide (κ = 1) || (decide (κ = 3) && v φ)) := by
        unfold TT
        rw [gDo h1, gDo h2, ← p1, flC_n]
        by_cases c3 : κ = 3
        · subst c3; simp
        · rw [if_neg c3]
          by_cases c2 : κ = 2
          · subst c2; simp
          · rw [if_neg c2]
            by_cases c1 : κ = 1
            · subst c1; simp
            · rw [if_neg c1]; simp [c1, c3]
      have set : ((List.range (Q.1 7).length).map (fun k => if k < m then bN (TT (Q.1 7) (Q.1 9) (Q.1 8) σ v k (Q.1 7).length) else 0)).set m (bN (TT (Q.1 7) (Q.1 9) (Q.1 8) σ v m (Q.1 7).length)) = (List.range (Q.1 7).length).map (fun k => if k < m + 1 then bN (TT (Q.1 7) (Q.1 9) (Q.1 8) σ v k (Q.1 7).length) else 0) := by
        have := map_set (n := (Q.1 7).length) (p := m) (f := fun k => if k < m then bN (TT (Q.1 7) (Q.1 9) (Q.1 8) σ v k (Q.1 7).length) else 0) (g := fun k => if k < m + 1 then bN (TT (Q.1 7) (Q.1 9) (Q.1 8) σ v k (Q.1 7).length) else 0) (fun k hk hne => by
          show (if k < m then _ else _) = (if k < m + 1 then _ else _)
          by_cases c : k < m
          · rw [if_pos c, if_pos (by omega)]
          · rw [if_neg c, if_neg (by omega)])
        simp only [show m < m + 1 by omega, if_true] at this
        exact this
      have fin : ∀ (x4 : Value) (v5 : Value), ∃ v3' v4' v5', xruns (O2 L) (zden L (d + 3)) 21 92 [.ref 4, .int (nI (Q.1 7).length), .int (nI m), .int (nI κ), x4, v5] [.int (nI (bN (TT (Q.1 7) (Q.1 9) (Q.1 8) σ v m (Q.1 7).length))), .int (nI m), .ref 74] (putM z (va_up M.1 12 ((List.range (Q.1 7).length).map (fun k => if k < m then bN (TT (Q.1 7) (Q.1 9) (Q.1 8) σ v k (Q.1 7).length) else 0)), M.2)) = xruns (O2 L) (zden L (d + 3)) 21 101 [.ref 4, .int (nI (Q.1 7).length), .int (nI (Q.1 7).length), v3', v4', v5'] [] (putM z (va_up M.1 12 ((List.range (Q.1 7).length).map (fun k => bN (TT (Q.1 7) (Q.1 9) (Q.1 8) σ v k (Q.1 7).length))), M.2)) ∨ ∀ y : Int32, x4 ≠ .int y := by
        intro x4 v5
        by_cases hx : ∃ y : Int32, x4 = .int y
        · obtain ⟨y, rfl⟩ := hx
          obtain ⟨a, b, c, e⟩ := ih (m + 1) (.int (nI κ)) (.int y) v5 (by omega)
          refine ⟨a, b, c, Or.inl ?_⟩
          rw [B21_92, Y12w (by rw [List.length_map, List.length_range]; exact ml) (by rw [List.length_map, List.length_range]; exact hn), Option.bind_some, nI_add, ← e, set]
        · exact ⟨.null, .null, .null, Or.inr (fun y q => hx ⟨y, q⟩)⟩
      have fin' : ∀ (y : Int32) (v5 : Value), ∃ v3' v4' v5', xruns (O2 L) (zden L (d + 3)) 21 92 [.ref 4, .int (nI (Q.1 7).length), .int (nI m), .int (nI κ), .int y, v5] [.int (nI (bN (TT (Q.1 7) (Q.1 9) (Q.1 8) σ v m (Q.1 7).length))), .int (nI m), .ref 74] (putM z (va_up M.1 12 ((List.range (Q.1 7).length).map (fun k => if k < m then bN (TT (Q.1 7) (Q.1 9) (Q.1 8) σ v k (Q.1 7).length) else 0)), M.2)) = xruns (O2 L) (zden L (d + 3)) 21 101 [.ref 4, .int (nI (Q.1 7).length), .int (nI (Q.1 7).length), v3', v4', v5'] [] (putM z (va_up M.1 12 ((List.range (Q.1 7).length).map (fun k => bN (TT (Q.1 7) (Q.1 9) (Q.1 8) σ v k (Q.1 7).length))), M.2)) := by
        intro y v5
        obtain ⟨a, b, c, e⟩ := fin (.int y) v5
        rcases e with e | e
        · exact ⟨a, b, c, e⟩
        · exact absurd rfl (e y)
      have e70 : ∀ (b : Bool) (v4 v5 : Value), TT (Q.1 7) (Q.1 9) (Q.1 8) σ v m (Q.1 7).length = (decide (κ = 1) || b) → ∃ v3' v4' v5', xruns (O2 L) (zden L (d + 3)) 21 70 [.ref 4, .int (nI (Q.1 7).length), .int (nI m), .int (nI κ), v4, v5] [.int (bI b)] (putM z (va_up M.1 12 ((List.range (Q.1 7).length).map (fun k => if k < m then bN (TT (Q.1 7) (Q.1 9) (Q.1 8) σ v k (Q.1 7).length) else 0)), M.2)) = xruns (O2 L) (zden L (d + 3)) 21 101 [.ref 4, .int (nI (Q.1 7).length), .int (nI (Q.1 7).length), v3', v4', v5'] [] (putM z (va_up M.1 12 ((List.range (Q.1 7).length).map (fun k => bN (TT (Q.1 7) (Q.1 9) (Q.1 8) σ v k (Q.1 7).length))), M.2)) := by
        intro b v4 v5 eb
        rw [B21_70, J4_14, Option.bind_some, iE (by omega) (by omega)]
        by_cases c1 : κ = 1
        · rw [if_pos c1, B21_87]
          have : TT (Q.1 7) (Q.1 9) (Q.1 8) σ v m (Q.1 7).length = true := by rw [eb, decide_eq_true c1]; rfl
          obtain ⟨a, b', c, e⟩ := fin' (bI b) v5
          rw [this] at e
          exact ⟨a, b', c, e⟩
        · rw [if_neg c1, B21_82, iB]
          have ex : TT (Q.1 7) (Q.1 9) (Q.1 8) σ v m (Q.1 7).length = b := by rw [eb, decide_eq_false c1]; rfl
          obtain ⟨a, b', c, e⟩ := fin' (bI b) v5
          rw [ex] at e
          cases b with
          | true => rw [if_pos rfl, B21_87]; exact ⟨a, b', c, e⟩
          | false => rw [if_neg (by decide), B21_91]; exact ⟨a, b', c, e⟩
      rw [B21_22, iL (by omega) (by omega), if_neg (by omega), B21_27, XP1 h, Option.bind_some, R3_7 h.2.1, Option.bind_some, XQ7g h, Option.bind_some, zget_map ml (by omega), gDo h1, iE (by omega) (by omega)]
      by_cases c3 : κ = 3
      · have φl := (h6 c3).1
        have g0 : zget ((M.1 0).map nI) (nI φ) = nI (C φ) := by
          rw [hC, zget_map (by rw [List.length_map, List.length_range]; exact φl) (by rw [List.length_map, List.length_range]; omega), map_at φl]
        rw [if_pos c3, B21_44, J4_2, Option.bind_some, XP1 h, Option.bind_some, R3_9 h.2.1, Option.bind_some, XQ9g h, Option.bind_some, zget_map (by omega) (by omega), gDo h2, X0g, Option.bind_some]
        show ∃ v3' v4' v5', (if zget ((M.1 0).map nI) (nI φ) ≤ nI 0 then _ else _) = _
        rw [g0, iL (by have := hC3 φ; omega) (by omega)]
        have vφ : v φ = decide (0 < C φ) := by rw [← hv]
        by_cases cC : C φ ≤ 0
        · rw [if_pos cC, B21_69]
          exact e70 false _ _ (by rw [eT, vφ, decide_eq_false (show ¬ 0 < C φ by omega), Bool.and_false])
        · rw [if_neg cC, B21_65]
          exact e70 true _ _ (by rw [eT, vφ, decide_eq_true (show 0 < C φ by omega), decide_eq_true c3]; rfl)
      · rw [if_neg c3, B21_69]
        exact e70 false _ _ (by rw [eT, decide_eq_false c3, Bool.false_and])
  -- backwards
  have back : ∀ (m : Nat) (v3 v4 v5 : Value), m < (Q.1 7).length → xruns (O2 L) (zden L (d + 3)) 21 105 [.ref 4, .int (nI (Q.1 7).length), .int (nI m), v3, v4, v5] [] (putM z (va_up M.1 12 ((List.range (Q.1 7).length).map (fun k => bN (TT (Q.1 7) (Q.1 9) (Q.1 8) σ v k (m + 1)))), M.2)) = some (0, putM z (va_up M.1 12 ((List.range (Q.1 7).length).map (fun k => bN ((σ k).1 v))), M.2)) := by
    intro m
    induction m with
    | zero =>
      intro v3 v4 v5 hm
      rw [B21_105, iL (by omega) (by omega), if_pos (Nat.le_refl _), B21_217]
      congr 4
      refine congrArg (va_up M.1 12) (List.map_congr_left (fun k hk => ?_))
      have hk := List.mem_range.mp hk
      rw [← TT_own pf hn hk (hσ k hk)]
      congr 1
      unfold TT
      have : flC (Q.1 8) k 1 = flC (Q.1 8) k (k + 1) := flC_own pf hk hn k 1 (by omega)
      rw [show (0 : Nat) + 1 = 1 from rfl, this]
    | succ m ih =>
      intro v3 v4 v5 hm
      have hm8 : m + 1 < (Q.1 8).length := by omega
      have hp : (Q.1 8)[m + 1]? = some ((Q.1 8).getD (m + 1) 0) := by rw [gD hm8]; exact List.getElem?_eq_getElem hm8
      have pl := pf.2.2.1 (m + 1) _ (by omega) hp
      obtain ⟨κ, φ, h1, h2, h3, h4, h5, h6, h7⟩ := hσ ((Q.1 8).getD (m + 1) 0) (by omega)
      have k3 : κ ≠ 3 := fun q => by
        have := mem_chL.mpr hp
        rw [(h6 q).2] at this
        cases this
      have one : κ = 2 → flC (Q.1 8) ((Q.1 8).getD (m + 1) 0) (m + 1 + 1) = [] := by
        intro q
        have l1 := h5 q
        rw [← flC_0, flC_own pf (by omega) hn _ 0 (Nat.zero_add _), ← flC_own pf (k := (Q.1 8).getD (m + 1) 0) (by omega) hn 1 ((Q.1 8).getD (m + 1) 0) rfl] at l1
        -- the only child is m + 1
        have all : ∀ (r a : Nat), a + r = m + 1 → (flC (Q.1 8) ((Q.1 8).getD (m + 1) 0) (m + 1)).length ≤ (flC (Q.1 8) ((Q.1 8).getD (m + 1) 0) a).length := by
          intro r
          induction r with
          | zero => intro a ha; rw [show a = m + 1 by omega]; exact Nat.le_refl _
          | succ r ih2 =>
            intro a ha
            refine Nat.le_trans (ih2 (a + 1) (by omega)) ?_
            rw [flC_s (m := a) (by omega)]
            split
            · rw [List.length_cons]; omega
            · exact Nat.le_refl _
        have := all (m + 1 - (Q.1 8).getD (m + 1) 0) ((Q.1 8).getD (m + 1) 0) (by omega)
        rw [flC_s hm8, if_pos hp, List.length_cons] at this
        exact List.eq_nil_of_length_eq_zero (by omega)
      have own : TT (Q.1 7) (Q.1 9) (Q.1 8) σ v (m + 1) (m + 1 + 1) = (σ (m + 1)).1 v := TT_own pf hn hm (hσ (m + 1) hm)
      have eP := TT_par (K := Q.1 7) (F := Q.1 9) (σ := σ) (v := v) hm8 hp (by rw [gDo h1]; exact k3) (by rw [gDo h1]; exact one)
      rw [gDo h1] at eP
      have set : ((List.range (Q.1 7).length).map (fun k => bN (TT (Q.1 7) (Q.1 9) (Q.1 8) σ v k (m + 1 + 1)))).set ((Q.1 8).getD (m + 1) 0) (bN (TT (Q.1 7) (Q.1 9) (Q.1 8) σ v ((Q.1 8).getD (m + 1) 0) (m + 1))) = (List.range (Q.1 7).length).map (fun k => bN (TT (Q.1 7) (Q.1 9) (Q.1 8) σ v k (m + 1))) :=
        map_set (n := (Q.1 7).length) (f := fun k => bN (TT (Q.1 7) (Q.1 9) (Q.1 8) σ v k (m + 1 + 1))) (g := fun k => bN (TT (Q.1 7) (Q.1 9) (Q.1 8) σ v k (m + 1))) (fun k hk hne => by
          show bN _ = bN _
          rw [TT_ne hm8 hp hne])
      have gr : ∀ k, k < (Q.1 7).length → zget (((List.range (Q.1 7).length).map (fun k => bN (TT (Q.1 7) (Q.1 9) (Q.1 8) σ v k (m + 1 + 1)))).map nI) (nI k) = nI (bN (TT (Q.1 7) (Q.1 9) (Q.1 8) σ v k (m + 1 + 1))) := fun k hk => by
        rw [zget_map (by rw [List.length_map, List.length_range]; exact hk) (by rw [List.length_map, List.length_range]; omega), map_at hk]
      have fin : ∀ (x3 x4 x5 : Int32), xruns (O2 L) (zden L (d + 3)) 21 211 [.ref 4, .int (nI (Q.1 7).length), .int (nI (m + 1)), .int x3, .int x4, .int x5] [] (putM z (va_up M.1 12 ((List.range (Q.1 7).length).map (fun k => bN (TT (Q.1 7) (Q.1 9) (Q.1 8) σ v k (m + 1)))), M.2)) = some (0, putM z (va_up M.1 12 ((List.range (Q.1 7).length).map (fun k => bN ((σ k).1 v))), M.2)) := by
        intro x3 x4 x5
        rw [B21_211, nI_m1 (by omega), Nat.add_sub_cancel]
        exact ih _ _ _ (by omega)
      have write : ∀ (x : Nat), x = bN (TT (Q.1 7) (Q.1 9) (Q.1 8) σ v ((Q.1 8).getD (m + 1) 0) (m + 1)) → zden L (d + 3) 58 [.ref 74, .int (nI ((Q.1 8).getD (m + 1) 0)), .int (nI x)] (putM z (va_up M.1 12 ((List.range (Q.1 7).length).map (fun k => bN (TT (Q.1 7) (Q.1 9) (Q.1 8) σ v k (m + 1 + 1)))), M.2)) = some (0, putM z (va_up M.1 12 ((List.range (Q.1 7).length).map (fun k => bN (TT (Q.1 7) (Q.1 9) (Q.1 8) σ v k (m + 1)))), M.2)) := by
        intro x hx
        rw [Y12w (by rw [List.length_map, List.length_range]; omega) (by rw [List.length_map, List.length_range]; exact hn), hx, set]
      rw [B21_105, iL (by omega) (by omega), if_neg (by omega), B21_109, XP1 h, Option.bind_some, R3_8 h.2.1, Option.bind_some, XQ8g h, Option.bind_some, zget_map hm8 (by omega), XP1 h, Option.bind_some, R3_7 h.2.1, Option.bind_some, XQ7g h, Option.bind_some, zget_map (by omega) (by omega), gDo h1, J4_14, Option.bind_some, Y12g, Option.bind_some, gr (m + 1) hm, own, iE (by omega) (by omega)]
      have b1 := bN_le ((σ (m + 1)).1 v)
      have gp : zden L (d + 3) 56 [.ref 74, .int (nI ((Q.1 8).getD (m + 1) 0))] (putM z (va_up M.1 12 ((List.range (Q.1 7).length).map (fun k => bN (TT (Q.1 7) (Q.1 9) (Q.1 8) σ v k (m + 1 + 1)))), M.2)) = some (nI (bN (TT (Q.1 7) (Q.1 9) (Q.1 8) σ v ((Q.1 8).getD (m + 1) 0) (m + 1 + 1))), putM z (va_up M.1 12 ((List.range (Q.1 7).length).map (fun k => bN (TT (Q.1 7) (Q.1 9) (Q.1 8) σ v k (m + 1 + 1)))), M.2)) := by
        rw [Y12g, gr _ (by omega)]
      by_cases c2 : κ = 2
      · rw [if_pos c2] at eP
        rw [if_pos c2, B21_150, J4_14, Option.bind_some, pk_sub b1, bN_not, write _ (by rw [eP]), Option.bind_some]
        exact fin _ _ _
      · rw [if_neg c2] at eP
        rw [if_neg c2, B21_165, iE (by omega) (by omega)]
        by_cases c1 : κ = 1
        · rw [if_pos c1] at eP
          rw [if_neg (by omega), B21_192, J4_14, Option.bind_some, Option.bind_some, gp, Option.bind_some]
          show ((zden L (d + 3) 58 [.ref 74, .int (nI ((Q.1 8).getD (m + 1) 0)), .int (nI (bN (TT (Q.1 7) (Q.1 9) (Q.1 8) σ v ((Q.1 8).getD (m + 1) 0) (m + 1 + 1))) &&& nI (bN ((σ (m + 1)).1 v)))] _).bind _) = _
          rw [nI_and, bN_and, write _ (by rw [eP]), Option.bind_some]
          exact fin _ _ _
        · rw [if_neg c1] at eP
          rw [if_pos (by omega), B21_170, J4_14, Option.bind_some, Option.bind_some, gp, Option.bind_some]
          show ((zden L (d + 3) 58 [.ref 74, .int (nI ((Q.1 8).getD (m + 1) 0)), .int (nI (bN (TT (Q.1 7) (Q.1 9) (Q.1 8) σ v ((Q.1 8).getD (m + 1) 0) (m + 1 + 1))) ||| nI (bN ((σ (m + 1)).1 v)))] _).bind _) = _
          rw [nI_or, bN_or, write _ (by rw [eP]), Option.bind_some]
          exact fin _ _ _
  obtain ⟨v3', v4', v5', e1⟩ := first (Q.1 7).length 0 .null .null .null (by omega)
  have rep : (List.range (Q.1 7).length).map (fun k => if k < 0 then bN (TT (Q.1 7) (Q.1 9) (Q.1 8) σ v k (Q.1 7).length) else 0) = List.replicate (Q.1 7).length 0 := by
    refine List.ext_getElem (by simp) (fun k h1 h2 => ?_)
    rw [List.getElem_map, List.getElem_replicate, if_neg (by omega)]
  rw [rep] at e1
  rw [N21 _ ob4, B21_0, XP1 h, Option.bind_some, R3_7 h.2.1, Option.bind_some, XQ7s h, Option.bind_some, J4_14, Option.bind_some, X12f hn, Option.bind_some]
  refine Eq.trans e1 ?_
  rw [B21_101, pk_sub (by omega)]
  have := back ((Q.1 7).length - 1) v3' v4' v5' (by omega)
  rw [show (Q.1 7).length - 1 + 1 = (Q.1 7).length by omega] at this
  exact this
end
