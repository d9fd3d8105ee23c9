/-! PRINT: the reference, putOut and print -/
section
variable {L d : Nat} {z : zS} {bs : List Nat} {Q : CT} {S : Option Sem} {lim : Nat} {F : Nat → Int32} {J : Nat → Nat → Int32} {R : Nat → List Nat} {l o : List Nat} {T' : CT}
/-- signs and tags from a to b -/
theorem m160_loop (px : PX bs Q S lim F R T') {a b : Nat} (hab : a ≤ b) (hb : b ≤ bs.length) (ha : a = 0 ∨ ∃ s, s < (kread bs 139).length ∧ a = atK (kread bs) s) (hbb : b = bs.length ∨ ∃ j, j < (kread bs 139).length ∧ b = enK (kread bs) j) (cap : o.length + 3 * (b - a) + 88 ≤ 4539) (x3 : Int32) : ∀ (r i s : Nat) (v6 v7 v8 : Value), b ≤ a + i + r → a + i ≤ b → s ≤ (kread bs 139).length → (∀ s', s' < s → enK (kread bs) s' ≤ a + i) → (∀ s', s ≤ s' → s' < (kread bs 139).length → a + i ≤ atK (kread bs) s') → ∃ x4 v6' v7' v8', xruns (O2 L) (zden L (d + 2)) 160 101 [.ref 136, .int (nI a), .int (nI b), .int x3, .int (nI s), .int (nI (a + i)), v6, v7, v8] [] (MO z F J R l (o ++ oB bs (litZ (kread bs) (pfZ bs Q S lim) (plZ bs Q S lim)) a i ++ pend (litZ (kread bs) (pfZ bs Q S lim) (plZ bs Q S lim)) a b i)) = xruns (O2 L) (zden L (d + 2)) 160 316 [.ref 136, .int (nI a), .int (nI b), .int x3, .int x4, .int (nI b), v6', v7', v8'] [] (MO z F J R l (o ++ (oB bs (litZ (kread bs) (pfZ bs Q S lim) (plZ bs Q S lim)) a (b - a) ++ mkB (prvL (litZ (kread bs) (pfZ bs Q S lim) (plZ bs Q S lim)) a (b - a)) false))) := by
  have tx := txr px.gx.bb px.gx.rd
  have len := tx.len
  have k139 := tx.k139
  have stop : ∀ s, s < (kread bs 139).length → atK (kread bs) s < b → enK (kread bs) s ≤ b := fun s hs h => by
    rcases hbb with e | ⟨j, j1, j2⟩
    · rw [e]; exact (px.pi.sb s hs).2
    · rcases Nat.lt_or_ge j s with c | c
      · have := sgn_lt px.pi c hs; omega
      · by_cases e : s = j
        · rw [e, j2]; exact Nat.le_refl _
        · have h1 := sgn_lt px.pi (show s < j by omega) j1
          have h2 := (px.pi.sb j j1).1
          omega
  intro r
  induction r with
  | zero =>
    intro i s v6 v7 v8 h1 h2 h3 h4 h5
    have e : a + i = b := by omega
    refine ⟨nI s, v6, v7, v8, ?_⟩
    rw [B160_101, e, if_pos (nI_le (Nat.le_refl _) (by omega)), show b - a = i by omega]
    congr 2
    rw [List.append_assoc]
    congr 2
    unfold pend
    rw [decide_eq_false (show ¬ a + i < b by omega), Bool.false_and]
    cases prvL (litZ (kread bs) (pfZ bs Q S lim) (plZ bs Q S lim)) a i <;> rfl
  | succ r ih =>
    intro i s v6 v7 v8 h1 h2 h3 h4 h5
    by_cases e : a + i = b
    · exact (fun (w : b ≤ a + i + 0) => by
        refine ⟨nI s, v6, v7, v8, ?_⟩
        rw [B160_101, e, if_pos (nI_le (Nat.le_refl _) (by omega)), show b - a = i by omega]
        congr 2
        rw [List.append_assoc]
        congr 2
        unfold pend
        rw [decide_eq_false (show ¬ a + i < b by omega), Bool.false_and]
        cases prvL (litZ (kread bs) (pfZ bs Q S lim) (plZ bs Q S lim)) a i <;> rfl) (by omega)
    have lt : a + i < b := by omega
    -- a byte of a tag
    have tagb : (s < (kread bs 139).length → a + i < atK (kread bs) s) → ∃ x4 v6' v7' v8', xruns (O2 L) (zden L (d + 2)) 160 299 [.ref 136, .int (nI a), .int (nI b), .int x3, .int (nI s), .int (nI (a + i)), v6, v7, v8] [] (MO z F J R l (o ++ oB bs (litZ (kread bs) (pfZ bs Q S lim) (plZ bs Q S lim)) a i ++ pend (litZ (kread bs) (pfZ bs Q S lim) (plZ bs Q S lim)) a b i)) = xruns (O2 L) (zden L (d + 2)) 160 316 [.ref 136, .int (nI a), .int (nI b), .int x3, .int x4, .int (nI b), v6', v7', v8'] [] (MO z F J R l (o ++ (oB bs (litZ (kread bs) (pfZ bs Q S lim) (plZ bs Q S lim)) a (b - a) ++ mkB (prvL (litZ (kread bs) (pfZ bs Q S lim) (plZ bs Q S lim)) a (b - a)) false))) := by
      intro hs
      have far : ∀ s', s ≤ s' → s' < (kread bs 139).length → a + i < atK (kread bs) s' := fun s' q1 q2 => by
        by_cases w : s = s'
        · subst w; exact hs q2
        · have e1 := sgn_lt px.pi (show s < s' by omega) q2
          have e2 := hs (by omega)
          have e3 := (px.pi.sb s (by omega)).1
          omega
      have dk : litZ (kread bs) (pfZ bs Q S lim) (plZ bs Q S lim) (a + i) = false := lit_tag (no_sign (p := 0) px.pi (s := s) (fun s' q _ => h4 s' q) far)
      obtain ⟨x4, v6', v7', v8', i0⟩ := ih (i + 1) s v6 v7 v8 (by omega) (by omega) h3 (fun s' q => by have := h4 s' q; omega) (fun s' q1 q2 => by have := far s' q1 q2; omega)
      refine ⟨x4, v6', v7', v8', ?_⟩
      rw [← i0]
      generalize hlit : litZ (kread bs) (pfZ bs Q S lim) (plZ bs Q S lim) = lt at *
      have ol := oB_len bs lt a i
      have pl1 := pend_len lt a b i
      have e1 : pend lt a b (i + 1) = [] := by
        unfold pend
        have : prvL lt a (i + 1) = false := by
          unfold prvL
          rw [show a + (i + 1) - 1 = a + i by omega, dk, Bool.and_false]
        rw [this]; rfl
      have e2 : pend lt a b i = mkB (prvL lt a i) false := by
        unfold pend
        rw [dk, Bool.and_false]
        cases prvL lt a i <;> rfl
      have e3 : oB bs lt a (i + 1) = oB bs lt a i ++ (mkB (prvL lt a i) false ++ [bs.getD (a + i) 0]) := by
        show oB bs lt a i ++ (mkB (prvL lt a i) (lt (a + i)) ++ [bs.getD (a + i) 0]) = _
        rw [dk]
      rw [B160_299, J136_2, Option.bind_some, qB px (by omega), Option.bind_some, m157 (by rw [List.length_append, List.length_append]; omega), Option.bind_some, nI_add, e1, e2, e3]
      simp only [List.append_assoc, List.append_nil]
      rfl
    rw [B160_101, iL (by omega) (by omega), if_neg (by omega), B160_107, q4 px, Option.bind_some, iL (by omega) (by omega)]
    by_cases c : (kread bs 139).length ≤ s
    · rw [if_pos c]
      exact tagb (fun q => by omega)
    · have sb := px.pi.sb s (by omega)
      rw [if_neg c, B160_116, J136_6, Option.bind_some, rAt px (by omega), Option.bind_some, iE (by omega) (by omega)]
      by_cases c2 : atK (kread bs) s = a + i
      · rw [if_pos c2]
        have en := stop s (by omega) (by omega)
        obtain ⟨v6', v7', v8', e1⟩ := m160_sign (L := L) (d := d) (z := z) (J := J) (l := l) (o := o) px (s := s) (by omega) c2.symm lt en hb ha cap x3 v6 v7 v8
        obtain ⟨x4, w6, w7, w8, e2⟩ := ih (enK (kread bs) s - a) (s + 1) v6' v7' v8' (by omega) (by omega) (by omega) (fun s' q => by
          by_cases w : s' = s
          · rw [w]; omega
          · have := sgn_lt px.pi (show s' < s by omega) (by omega)
            omega) (fun s' q1 q2 => by
          have := sgn_lt px.pi (show s < s' by omega) q2
          omega)
        rw [show a + (enK (kread bs) s - a) = enK (kread bs) s by omega] at e2
        exact ⟨x4, w6, w7, w8, e1.trans e2⟩
      · rw [if_neg c2]
        exact tagb (fun q => by have := h5 s (Nat.le_refl _) q; omega)
theorem m160 (px : PX bs Q S lim F R T') {a b : Nat} (hab : a ≤ b) (hb : b ≤ bs.length) (ha : a = 0 ∨ ∃ s, s < (kread bs 139).length ∧ a = atK (kread bs) s) (hbb : b = bs.length ∨ ∃ j, j < (kread bs 139).length ∧ b = enK (kread bs) j) (cap : o.length + 168 + 3 * (b - a) ≤ 4539) : ∃ l', zden L (d + 3) 160 [.ref 136, .int (nI a), .int (nI b)] (MO z F J R l o) = some (0, MO z F J R l' (o ++ putO bs (litZ (kread bs) (pfZ bs Q S lim) (plZ bs Q S lim)) a b)) := by
  have tx := txr px.gx.bb px.gx.rd
  have len := tx.len
  have k139 := tx.k139
  have k144 := tx.k144
  have k145 := tx.k145
  obtain ⟨pl1, pl2, pl3⟩ := putO_len px.pi (litZ (kread bs) (pfZ bs Q S lim) (plZ bs Q S lim)) hab hb
  have bda : bdy (kread bs) bs.length a := by
    rcases ha with e | ⟨s, s1, s2⟩
    · exact Or.inl e
    · exact Or.inr (Or.inr ⟨s, s1, Or.inl s2⟩)
  have bdb : bdy (kread bs) bs.length b := by
    rcases hbb with e | ⟨s, s1, s2⟩
    · exact Or.inr (Or.inl e)
    · exact Or.inr (Or.inr ⟨s, s1, Or.inr s2⟩)
  have tags : ∀ (p c : Nat) (l : List Nat), p ≤ bs.length → c ≤ (kread bs 144).length → (ms0 (kread bs) c).map (fun t => (kread bs 144).getD t 0) = stk bs p → (ms0 (kread bs) c).length ≤ l.length → l.take (ms0 (kread bs) c).length = ms0 (kread bs) c → (ms0 (kread bs) c).length = (stk bs p).length ∧ (stk bs p).length ≤ 8 ∧ ∀ k, k < (stk bs p).length → l.getD k 0 < (kread bs 144).length ∧ (kread bs 144).getD (l.getD k 0) 0 = (stk bs p).getD k 0 ∧ (kread bs 145).getD (l.getD k 0) 0 = (stk bs p).getD k 0 + tagL bs ((stk bs p).getD k 0) ∧ tagL bs ((stk bs p).getD k 0) ≤ 10 ∧ 3 ≤ tagL bs ((stk bs p).getD k 0) ∧ (stk bs p).getD k 0 + tagL bs ((stk bs p).getD k 0) ≤ bs.length := by
    intro p c l hp hc hm hl ht
    obtain ⟨s1, s2, s3⟩ := px.pi.so p hp
    have el : (ms0 (kread bs) c).length = (stk bs p).length := by rw [← hm, List.length_map]
    refine ⟨el, s2, fun k hk => ?_⟩
    have kl : k < (ms0 (kread bs) c).length := by omega
    have e1 : l.getD k 0 = (ms0 (kread bs) c).getD k 0 := by
      have : (l.take (ms0 (kread bs) c).length).getD k 0 = l.getD k 0 := by
        simp only [List.getD, List.getElem?_take, if_pos kl]
      rw [← this, ht]
    have lt : l.getD k 0 < (kread bs 144).length := by
      rw [e1, gD kl]
      have := (px.pi.mb c hc).2 _ (List.getElem_mem kl)
      omega
    have e2 : (kread bs 144).getD (l.getD k 0) 0 = (stk bs p).getD k 0 := by
      rw [← hm, e1]
      simp only [List.getD, List.getElem?_map, List.getElem?_eq_getElem kl, Option.map_some, Option.getD_some]
    have mem : (stk bs p).getD k 0 ∈ stk bs p := by rw [gD hk]; exact List.getElem_mem hk
    have tb := s1 _ mem
    have ti := tag_in tb.1
    have mt := px.pi.mt _ lt
    rw [e2] at mt
    exact ⟨lt, e2, mt.1, ti.2.2.2.1 tb.2, ti.1, ti.2.2.1⟩
  have g144 : ∀ l o t, t < (kread bs 144).length → (O2 L).2.2.2.2.2.1 (MO z F J R l o) 0 144 (nI t) = some (nI ((kread bs 144).getD t 0)) := fun l o t ht => by
    unfold MO
    rw [L144 (by rw [qK px (by omega) (by omega)]; exact ht) (by omega), qK px (by omega) (by omega)]
  have g145 : ∀ l o t, t < (kread bs 144).length → (O2 L).2.2.2.2.2.1 (MO z F J R l o) 0 145 (nI t) = some (nI ((kread bs 145).getD t 0)) := fun l o t ht => by
    unfold MO
    rw [L145 (by rw [qK px (by omega) (by omega), k145]; exact ht) (by omega), qK px (by omega) (by omega)]
  obtain ⟨l1, c1, cc1, cm1, cl1, ct1, e158⟩ := m158 (L := L) (d := d + 1) (z := z) (J := J) (l := l) (o := o) px (show a ≤ bs.length by omega) bda
  obtain ⟨n1, n8, tg1⟩ := tags a c1 l1 (by omega) cc1 cm1 cl1 ct1
  rw [n1] at e158 cl1
  obtain ⟨s1, s2, s3⟩ := px.pi.so a (by omega)
  have t10 : ∀ x ∈ stk bs a, tagL bs x ≤ 10 := fun x hx => (tag_in (s1 x hx).1).2.2.2.1 (s1 x hx).2
  -- what is opened ahead
  have opn : ∀ (r k : Nat) (v5 v6 v7 v8 : Value), k + r = (stk bs a).length → ∃ v5', xruns (O2 L) (zden L (d + 2)) 160 9 [.ref 136, .int (nI a), .int (nI b), .int (nI (stk bs a).length), .int (nI k), v5, v6, v7, v8] [] (MO z F J R l1 (o ++ opnN bs (stk bs a) k)) = xruns (O2 L) (zden L (d + 2)) 160 72 [.ref 136, .int (nI a), .int (nI b), .int (nI (stk bs a).length), .int (nI 0), v5', v6, v7, v8] [] (MO z F J R l1 (o ++ opnN bs (stk bs a) (stk bs a).length)) := by
    intro r
    induction r with
    | zero =>
      intro k v5 v6 v7 v8 hk
      have : k = (stk bs a).length := by omega
      subst this
      exact ⟨v5, by rw [B160_9, if_pos (nI_le (Nat.le_refl _) (by omega)), B160_69]⟩
    | succ r ih =>
      intro k v5 v6 v7 v8 hk
      have ol := opnN_len t10 k (by omega)
      obtain ⟨q1, q2, q3, q4', q5, q6⟩ := tg1 k (by omega)
      have inner : ∀ (r m : Nat), m + r = tagL bs ((stk bs a).getD k 0) → xruns (O2 L) (zden L (d + 2)) 160 29 [.ref 136, .int (nI a), .int (nI b), .int (nI (stk bs a).length), .int (nI k), .int (nI ((stk bs a).getD k 0 + m)), v6, v7, v8] [] (MO z F J R l1 (o ++ opnN bs (stk bs a) k ++ seg bs ((stk bs a).getD k 0) m)) = xruns (O2 L) (zden L (d + 2)) 160 63 [.ref 136, .int (nI a), .int (nI b), .int (nI (stk bs a).length), .int (nI k), .int (nI ((stk bs a).getD k 0 + tagL bs ((stk bs a).getD k 0))), v6, v7, v8] [] (MO z F J R l1 (o ++ opnN bs (stk bs a) (k + 1))) := by
        intro r
        induction r with
        | zero =>
          intro m hm
          have : m = tagL bs ((stk bs a).getD k 0) := by omega
          subst this
          rw [B160_29, J136_12, Option.bind_some, J136_73, Option.bind_some, rOp (by omega) (by omega), Option.bind_some, g145 _ _ _ q1, Option.bind_some, q3, if_pos (nI_le (Nat.le_refl _) (by omega)), List.append_assoc]
          rfl
        | succ r ih2 =>
          intro m hm
          have sl := seg_len bs ((stk bs a).getD k 0) m
          have i0 := ih2 (m + 1) (by omega)
          rw [B160_29, J136_12, Option.bind_some, J136_73, Option.bind_some, rOp (by omega) (by omega), Option.bind_some, g145 _ _ _ q1, Option.bind_some, q3, iL (by omega) (by omega), if_neg (by omega), B160_46, J136_2, Option.bind_some, qB px (by omega), Option.bind_some, m157 (by rw [List.length_append, List.length_append, sl]; omega), Option.bind_some, nI_add, List.append_assoc, ← seg_succ]
          exact i0
      obtain ⟨v5', i0⟩ := ih (k + 1) (.int (nI ((stk bs a).getD k 0 + tagL bs ((stk bs a).getD k 0)))) v6 v7 v8 (by omega)
      refine ⟨v5', ?_⟩
      have in0 := inner (tagL bs ((stk bs a).getD k 0)) 0 (by omega)
      rw [show o ++ opnN bs (stk bs a) k ++ seg bs ((stk bs a).getD k 0) 0 = o ++ opnN bs (stk bs a) k from List.append_nil _] at in0
      rw [B160_9, iL (by omega) (by omega), if_neg (by omega), B160_15, J136_11, Option.bind_some, J136_73, Option.bind_some, rOp (by omega) (by omega), Option.bind_some, g144 _ _ _ q1, Option.bind_some, q2]
      refine in0.trans ?_
      rw [B160_63, nI_add]
      exact i0
  -- the first sign
  have srch : ∀ (o : List Nat) (v5 v6 v7 v8 : Value) (r s : Nat), s + r = (kread bs 139).length → (∀ s', s' < s → atK (kread bs) s' < a) → ∃ s0, s0 ≤ (kread bs 139).length ∧ (∀ s', s' < s0 → atK (kread bs) s' < a) ∧ (s0 < (kread bs 139).length → a ≤ atK (kread bs) s0) ∧ xruns (O2 L) (zden L (d + 2)) 160 72 [.ref 136, .int (nI a), .int (nI b), .int (nI (stk bs a).length), .int (nI s), v5, v6, v7, v8] [] (MO z F J R l1 o) = xruns (O2 L) (zden L (d + 2)) 160 101 [.ref 136, .int (nI a), .int (nI b), .int (nI (stk bs a).length), .int (nI s0), .int (nI a), v6, v7, v8] [] (MO z F J R l1 o) := by
    intro o v5 v6 v7 v8 r
    induction r with
    | zero =>
      intro s hs h
      refine ⟨s, by omega, h, fun q => by omega, ?_⟩
      rw [B160_72, q4 px, Option.bind_some, iL (by omega) (by omega), if_pos (by omega), B160_98]
    | succ r ih =>
      intro s hs h
      have sb := px.pi.sb s (by omega)
      by_cases c : a ≤ atK (kread bs) s
      · refine ⟨s, by omega, h, fun _ => c, ?_⟩
        rw [B160_72, q4 px, Option.bind_some, iL (by omega) (by omega), if_neg (by omega), B160_81, J136_6, Option.bind_some, rAt px (by omega), Option.bind_some, iL (by omega) (by omega), if_pos c, B160_98]
      · obtain ⟨s0, y1, y2, y3, y4⟩ := ih (s + 1) (by omega) (fun s' q => by
          by_cases w : s' = s
          · rw [w]; omega
          · exact h s' (by omega))
        refine ⟨s0, y1, y2, y3, ?_⟩
        rw [B160_72, q4 px, Option.bind_some, iL (by omega) (by omega), if_neg (by omega), B160_81, J136_6, Option.bind_some, rAt px (by omega), Option.bind_some, iL (by omega) (by omega), if_neg c, B160_92, nI_add]
        exact y4
  obtain ⟨v5', eo⟩ := opn (stk bs a).length 0 .null .null .null .null (by omega)
  rw [show o ++ opnN bs (stk bs a) 0 = o from List.append_nil o] at eo
  obtain ⟨s0, y1, y2, y3, es⟩ := srch (o ++ opnN bs (stk bs a) (stk bs a).length) v5' .null .null .null (kread bs 139).length 0 (by omega) (fun s' q => by omega)
  obtain ⟨x4, v6', v7', v8', el⟩ := m160_loop (L := L) (d := d) (z := z) (J := J) (l := l1) (o := o ++ opnN bs (stk bs a) (stk bs a).length) px hab hb ha hbb (by rw [List.length_append]; omega) (nI (stk bs a).length) (b - a) 0 s0 .null .null .null (by omega) (by omega) y1 (fun s' q => by
    have h1 := y2 s' q
    rcases ha with e | ⟨s2, e1, e2⟩
    · omega
    · have lt : s' < s2 := by
        rcases Nat.lt_or_ge s' s2 with c | c
        · exact c
        · exfalso
          by_cases e : s2 = s'
          · rw [e] at e2; omega
          · have w1 := sgn_lt px.pi (show s2 < s' by omega) (by omega)
            have w2 := (px.pi.sb s2 e1).1
            omega
      have := sgn_lt px.pi lt e1
      omega) (fun s' q1 q2 => by
    have h1 := y3 (by omega)
    by_cases e : s0 = s'
    · rw [← e]; exact h1
    · have w1 := sgn_lt px.pi (show s0 < s' by omega) q2
      have w2 := (px.pi.sb s0 (by omega)).1
      omega)
  have p0 : pend (litZ (kread bs) (pfZ bs Q S lim) (plZ bs Q S lim)) a b 0 = [] := rfl
  rw [p0, List.append_nil, show oB bs (litZ (kread bs) (pfZ bs Q S lim) (plZ bs Q S lim)) a 0 = [] from rfl, List.append_nil, show a + 0 = a from rfl] at el
  generalize hO : o ++ opnN bs (stk bs a) (stk bs a).length ++ (oB bs (litZ (kread bs) (pfZ bs Q S lim) (plZ bs Q S lim)) a (b - a) ++ mkB (prvL (litZ (kread bs) (pfZ bs Q S lim) (plZ bs Q S lim)) a (b - a)) false) = O at el
  have Ol : O.length + 88 ≤ 4539 := by
    rw [← hO, List.length_append, List.length_append]
    omega
  obtain ⟨l2, c2, cc2, cm2, cl2, ct2, e158'⟩ := m158 (L := L) (d := d + 1) (z := z) (J := J) (l := l1) (o := O) px hb bdb
  obtain ⟨n2, n8', tg2⟩ := tags b c2 l2 hb cc2 cm2 cl2 ct2
  rw [n2] at e158' cl2
  obtain ⟨r1, r2, r3⟩ := px.pi.so b hb
  have t10b : ∀ x ∈ stk bs b, tagL bs x ≤ 10 := fun x hx => (tag_in (r1 x hx).1).2.2.2.1 (r1 x hx).2
  refine ⟨l2, ?_⟩
  have fin : o ++ putO bs (litZ (kread bs) (pfZ bs Q S lim) (plZ bs Q S lim)) a b = O ++ clsN bs (stk bs b) (stk bs b).length := by
    rw [← hO]
    unfold putO
    simp only [List.append_assoc]
  rw [fin]
  -- what is closed behind
  have done : ∀ (x6 : Int32) (v7 v8 : Value), x6 < nI 0 → xruns (O2 L) (zden L (d + 2)) 160 327 [.ref 136, .int (nI a), .int (nI b), .int (nI (stk bs b).length), .int x4, .int (nI b), .int x6, v7, v8] [] (MO z F J R l2 (O ++ clsN bs (stk bs b) (stk bs b).length)) = some (0, MO z F J R l2 (O ++ clsN bs (stk bs b) (stk bs b).length)) := fun x6 v7 v8 hx => by
    rw [B160_327, if_pos hx, B160_400]
  have one : ∀ (r k : Nat) (v7 v8 : Value), k + (r + 1) = (stk bs b).length → ∃ v7', xruns (O2 L) (zden L (d + 2)) 160 327 [.ref 136, .int (nI a), .int (nI b), .int (nI (stk bs b).length), .int x4, .int (nI b), .int (nI r), v7, v8] [] (MO z F J R l2 (O ++ clsN bs (stk bs b) k)) = xruns (O2 L) (zden L (d + 2)) 160 327 [.ref 136, .int (nI a), .int (nI b), .int (nI (stk bs b).length), .int x4, .int (nI b), .int (nI r + (-1)), v7', v8] [] (MO z F J R l2 (O ++ clsN bs (stk bs b) (k + 1))) := by
    intro r k v7 v8 hk
    have ol := clsN_len t10b k (by omega)
    obtain ⟨q1, q2, q3, q4', q5, q6⟩ := tg2 r (by omega)
    have eq : clsN bs (stk bs b) (k + 1) = clsN bs (stk bs b) k ++ ([60] ++ ([47] ++ seg bs ((stk bs b).getD r 0 + 1) (tagL bs ((stk bs b).getD r 0) - 1))) := by
      show clsN bs (stk bs b) k ++ (60 :: 47 :: seg bs ((stk bs b).getD ((stk bs b).length - 1 - k) 0 + 1) (tagL bs ((stk bs b).getD ((stk bs b).length - 1 - k) 0) - 1)) = _
      rw [show (stk bs b).length - 1 - k = r by omega]
      rfl
    have inner : ∀ (n m : Nat), m + n = tagL bs ((stk bs b).getD r 0) - 1 → xruns (O2 L) (zden L (d + 2)) 160 360 [.ref 136, .int (nI a), .int (nI b), .int (nI (stk bs b).length), .int x4, .int (nI b), .int (nI r), .int (nI ((stk bs b).getD r 0 + 1 + m)), v8] [] (MO z F J R l2 (O ++ clsN bs (stk bs b) k ++ [60] ++ [47] ++ seg bs ((stk bs b).getD r 0 + 1) m)) = xruns (O2 L) (zden L (d + 2)) 160 394 [.ref 136, .int (nI a), .int (nI b), .int (nI (stk bs b).length), .int x4, .int (nI b), .int (nI r), .int (nI ((stk bs b).getD r 0 + tagL bs ((stk bs b).getD r 0))), v8] [] (MO z F J R l2 (O ++ clsN bs (stk bs b) (k + 1))) := by
      intro n
      induction n with
      | zero =>
        intro m hm
        have : m = tagL bs ((stk bs b).getD r 0) - 1 := by omega
        subst this
        rw [B160_360, J136_12, Option.bind_some, J136_73, Option.bind_some, rOp (by omega) (by omega), Option.bind_some, g145 _ _ _ q1, Option.bind_some, q3, iL (by omega) (by omega), if_pos (by omega), eq, show (stk bs b).getD r 0 + 1 + (tagL bs ((stk bs b).getD r 0) - 1) = (stk bs b).getD r 0 + tagL bs ((stk bs b).getD r 0) by omega]
        simp only [List.append_assoc]
      | succ n ih2 =>
        intro m hm
        have sl := seg_len bs ((stk bs b).getD r 0 + 1) m
        have i0 := ih2 (m + 1) (by omega)
        rw [seg_succ, ← List.append_assoc] at i0
        rw [B160_360, J136_12, Option.bind_some, J136_73, Option.bind_some, rOp (by omega) (by omega), Option.bind_some, g145 _ _ _ q1, Option.bind_some, q3, iL (by omega) (by omega), if_neg (by omega), B160_377, J136_2, Option.bind_some, qB px (by omega), Option.bind_some, m157 (by rw [List.length_append, List.length_append, List.length_append, List.length_append, sl]; simp only [List.length_cons, List.length_nil]; omega), Option.bind_some, nI_add]
        exact i0
    have in0 := inner (tagL bs ((stk bs b).getD r 0) - 1) 0 (by omega)
    rw [show seg bs ((stk bs b).getD r 0 + 1) 0 = [] from rfl, List.append_nil] at in0
    refine ⟨.int (nI ((stk bs b).getD r 0 + tagL bs ((stk bs b).getD r 0))), ?_⟩
    rw [B160_327, if_neg (nI_p0 (by omega)), B160_332, m157 (by rw [List.length_append]; omega), Option.bind_some, m157 (by rw [List.length_append, List.length_append]; simp only [List.length_cons, List.length_nil]; omega), Option.bind_some, J136_11, Option.bind_some, J136_73, Option.bind_some, rOp (by omega) (by omega), Option.bind_some, g144 _ _ _ q1, Option.bind_some, q2, nI_add]
    refine in0.trans ?_
    rw [B160_394]
  have cls : ∀ (r k : Nat) (v7 v8 : Value), k + (r + 1) = (stk bs b).length → xruns (O2 L) (zden L (d + 2)) 160 327 [.ref 136, .int (nI a), .int (nI b), .int (nI (stk bs b).length), .int x4, .int (nI b), .int (nI r), v7, v8] [] (MO z F J R l2 (O ++ clsN bs (stk bs b) k)) = some (0, MO z F J R l2 (O ++ clsN bs (stk bs b) (stk bs b).length)) := by
    intro r
    induction r with
    | zero =>
      intro k v7 v8 hk
      obtain ⟨v7', h⟩ := one 0 k v7 v8 hk
      rw [h, show k + 1 = (stk bs b).length by omega]
      exact done _ _ _ (by decide)
    | succ r ih =>
      intro k v7 v8 hk
      obtain ⟨v7', h⟩ := one (r + 1) k v7 v8 hk
      rw [h, nI_m1 (by omega), Nat.add_sub_cancel]
      exact ih (k + 1) v7' v8 (by omega)
  rw [N160 _ _ _ ob136, B160_0, e158, Option.bind_some]
  refine eo.trans (es.trans (el.trans ?_))
  rw [B160_316, e158', Option.bind_some]
  by_cases c : (stk bs b).length = 0
  · rw [c]
    have d0 := done (nI 0 - nI 1) v7' v8' (by decide)
    rw [c] at d0
    rw [show O ++ clsN bs (stk bs b) 0 = O from List.append_nil O] at d0 ⊢
    exact d0
  · have h0 := cls ((stk bs b).length - 1) 0 v7' v8' (by omega)
    rw [show O ++ clsN bs (stk bs b) 0 = O from List.append_nil O] at h0
    rw [pk_sub (by omega)]
    exact h0
end
