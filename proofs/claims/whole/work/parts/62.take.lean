/-! THE REFERENCE: take. The signs and the tags as lists, under their arrays' numbers -/
abbrev KT : Type := Nat → List Nat
def kTag (K : KT) (p e cl br : Nat) : KT := va_up (va_up (va_up (va_up (va_up K 144 (K 144 ++ [p])) 145 (K 145 ++ [e])) 146 (K 146 ++ [cl])) 142 ((K 142).set (K 139).length 1)) 143 (if br = 1 then (K 143).set (K 139).length 1 else K 143)
def kSign (K : KT) (ch p e : Nat) : KT := va_up (va_up (va_up (va_up (va_up K 139 (K 139 ++ [ch])) 140 (K 140 ++ [p])) 141 (K 141 ++ [e])) 142 (K 142 ++ [0])) 143 (K 143 ++ [0])
def kCh (bs : List Nat) (p : Nat) : Nat := if bs.getD p 0 = 38 then (if nameL bs p = 5 then 38 else if bs[p + 1]? = some 108 then 60 else 62) else bs.getD p 0
def kStep (bs : List Nat) (p n : Nat) (K : KT) : KT := if bs.getD p 0 = 60 then kTag K p (p + n) (if bs[p + 1]? = some 47 then 1 else 0) (if isBr bs p = true then 1 else 0) else kSign K (kCh bs p) p (p + n)
def kgo (bs : List Nat) : Nat → Nat → CT → KT → KT
  | 0, _, _, K => K
  | r + 1, p, T, K => if p < bs.length then (match cStep bs p T with
    | none => K
    | some (n, T') => kgo bs r (p + n) T' (kStep bs p n K)) else K
def K0 : KT := fun a => if a = 142 ∨ a = 143 then [0] else []
def kread (bs : List Nat) : KT := kgo bs bs.length 0 (T0 bs) K0
def KW (p : Nat) (K : KT) : Prop := (K 140).length = (K 139).length ∧ (K 141).length = (K 139).length ∧ (K 142).length = (K 139).length + 1 ∧ (K 143).length = (K 139).length + 1 ∧ (K 145).length = (K 144).length ∧ (K 146).length = (K 144).length ∧ (K 139).length ≤ p ∧ 3 * (K 144).length ≤ p
theorem KW.tag {p n e cl br : Nat} {K : KT} (w : KW p K) (hn : 3 ≤ n) : KW (p + n) (kTag K p e cl br) := by
  obtain ⟨w1, w2, w3, w4, w5, w6, w7, w8⟩ := w
  refine ⟨?_, ?_, ?_, ?_, ?_, ?_, ?_, ?_⟩ <;> simp (disch := omega) only [kTag, vs, vn, List.length_append, List.length_cons, List.length_nil, List.length_set] <;> (try omega)
  split
  · simp only [List.length_set]; omega
  · omega
theorem KW.sign {p n e ch : Nat} {K : KT} (w : KW p K) (hn : 1 ≤ n) : KW (p + n) (kSign K ch p e) := by
  obtain ⟨w1, w2, w3, w4, w5, w6, w7, w8⟩ := w
  refine ⟨?_, ?_, ?_, ?_, ?_, ?_, ?_, ?_⟩ <;> simp (disch := omega) only [kSign, vs, vn, List.length_append, List.length_cons, List.length_nil] <;> omega
/-- a step that is taken: which kind it is -/
theorem cStep_kind {bs : List Nat} {p n : Nat} {T T' : CT} (e : cStep bs p T = some (n, T')) : ∃ c, bs[p]? = some c ∧ 32 ≤ c ∧ c ≤ 126 ∧
    ((c = 60 ∧ tagB bs p = true ∧ (opT bs p (T.1 10)).1 = true ∧ n = tagL bs p ∧ T' = cTag T (opT bs p (T.1 10)).2 (isBr bs p)) ∨
     (c ≠ 60 ∧ c ≠ 38 ∧ isWd c = true ∧ ¬ (T.2 11 = 0 ∧ 300 ≤ (T.1 1).length) ∧ n = 1 ∧ T' = cWord T p (lo c)) ∨
     (c = 38 ∧ isWd c = false ∧ nameL bs p ≠ 0 ∧ n = nameL bs p ∧ T' = cOther T 38 (p + nameL bs p)) ∨
     (c ≠ 60 ∧ c ≠ 38 ∧ isWd c = false ∧ n = 1 ∧ T' = cOther T c (p + 1))) := by
  unfold cStep at e
  cases hc : bs[p]? with
  | none => rw [hc] at e; cases e
  | some c =>
    rw [hc] at e
    simp only at e
    refine ⟨c, rfl, ?_⟩
    by_cases e1 : c < 32 ∨ 126 < c
    · rw [if_pos e1] at e; cases e
    · rw [if_neg e1] at e
      refine ⟨by omega, by omega, ?_⟩
      by_cases e2 : c = 60
      · rw [if_pos e2] at e
        by_cases e3 : tagB bs p = true ∧ (opT bs p (T.1 10)).1 = true
        · rw [if_pos e3] at e
          cases e
          exact Or.inl ⟨e2, e3.1, e3.2, rfl, rfl⟩
        · rw [if_neg e3] at e; cases e
      · rw [if_neg e2] at e
        by_cases e3 : isWd c = true
        · rw [if_pos e3] at e
          by_cases e4 : T.2 11 = 0 ∧ 300 ≤ (T.1 1).length
          · rw [if_pos e4] at e; cases e
          · rw [if_neg e4] at e
            cases e
            exact Or.inr (Or.inl ⟨e2, (isWd_not e3).2.1, e3, e4, rfl, rfl⟩)
        · rw [if_neg e3] at e
          have e3' : isWd c = false := by simpa using e3
          by_cases e4 : c = 38
          · rw [if_pos e4] at e
            by_cases e5 : nameL bs p = 0
            · rw [if_pos e5] at e; cases e
            · rw [if_neg e5] at e
              cases e
              exact Or.inr (Or.inr (Or.inl ⟨e4, e3', e5, rfl, rfl⟩))
          · rw [if_neg e4] at e
            cases e
            exact Or.inr (Or.inr (Or.inr ⟨e2, e4, e3', rfl, rfl⟩))
theorem kStep_w {bs : List Nat} {p n : Nat} {T T' : CT} {K : KT} (e : cStep bs p T = some (n, T')) (w : KW p K) : KW (p + n) (kStep bs p n K) := by
  obtain ⟨c, hc, c1, c2, hk⟩ := cStep_kind e
  unfold kStep
  rw [gDo hc]
  rcases hk with ⟨q, q1, q2, q3, q4⟩ | ⟨q, q1, q2, q3, q4, q5⟩ | ⟨q, q1, q2, q3, q4⟩ | ⟨q, q1, q2, q3, q4⟩
  · rw [if_pos q]
    refine w.tag ?_
    have := fst1_le bs p
    have := (tagB_at q1).1
    rw [q3]
    unfold tagL
    rw [if_pos q1]
    omega
  · rw [if_neg q]; exact w.sign (by omega)
  · rw [if_neg (by omega)]; exact w.sign (by omega)
  · rw [if_neg q]; exact w.sign (by omega)
def RA (K Al : KT) : Prop := ∀ a, 139 ≤ a → a ≤ 146 → Al a = K a
theorem RA.up {K Al : KT} (h : RA K Al) (k : Nat) {x y : List Nat} (e : y = x) : RA (va_up K k x) (va_up Al k y) := by
  intro a h1 h2
  subst e
  by_cases q : a = k
  · subst q; rw [vs, vs]
  · rw [vn _ _ q, vn _ _ q]; exact h a h1 h2
theorem RA.tag {K Al : KT} (h : RA K Al) {p e cl br : Nat} : RA (kTag K p e cl br) (kTag Al p e cl br) := by
  unfold kTag
  rw [h 139 (by omega) (by omega), h 142 (by omega) (by omega), h 143 (by omega) (by omega), h 144 (by omega) (by omega), h 145 (by omega) (by omega), h 146 (by omega) (by omega)]
  exact ((((h.up _ rfl).up _ rfl).up _ rfl).up _ rfl).up _ rfl
theorem RA.sign {K Al : KT} (h : RA K Al) {p e ch : Nat} : RA (kSign K ch p e) (kSign Al ch p e) := by
  unfold kSign
  rw [h 139 (by omega) (by omega), h 140 (by omega) (by omega), h 141 (by omega) (by omega), h 142 (by omega) (by omega), h 143 (by omega) (by omega)]
  exact ((((h.up _ rfl).up _ rfl).up _ rfl).up _ rfl).up _ rfl
section
variable {L d : Nat} {z : zS} {bs : List Nat} {p : Nat} {f : Nat → Int32} {A : Nat → Nat → Int32} {Al : KT}
theorem m119_tag (hb : BB bs) (h1 : f 1 = nI bs.length) (h2 : Al 137 = bs) (h4 : f 4 = nI (Al 139).length) (h10 : f 10 = nI (Al 144).length) (w : KW p Al) (hp : p < bs.length) (ht : tagB bs p = true) {x2 : Int32} {v3 v4 v5 : Value} :
    ∃ y2 y3 y4 y5, xruns (O2 L) (zden L (d + 2)) 119 83 [.ref 136, .int (nI p), .int x2, v3, v4, v5] [] (ms z f A Al) = xruns (O2 L) (zden L (d + 2)) 119 62 [.ref 136, .int (nI (p + tagL bs p)), y2, y3, y4, y5] [] (ms z (va_up (va_up f 48 (nI (p + tagL bs p))) 10 (nI ((Al 144).length + 1))) A (kTag Al p (p + tagL bs p) (if bs[p + 1]? = some 47 then 1 else 0) (if isBr bs p = true then 1 else 0))) := by
  have hb2 := hb.2
  obtain ⟨w1, w2, w3, w4, w5, w6, w7, w8⟩ := w
  obtain ⟨b1, b2, b3, b4⟩ := tagB_at ht
  have hf1 := fst1_le bs p
  obtain ⟨hin, _⟩ := List.getElem?_eq_some_iff.mp b3
  have hL : fst1 bs p + tagN bs p + 1 = p + tagL bs p := by
    unfold tagL
    rw [if_pos ht]
    omega
  obtain ⟨c, hc⟩ : ∃ c, bs[p + 1]? = some c := ⟨_, List.getElem?_eq_getElem (by omega)⟩
  have c256 := hb.at hc
  obtain ⟨c1, hc1⟩ : ∃ c, bs[fst1 bs p]? = some c := ⟨_, List.getElem?_eq_getElem (by omega)⟩
  have c1256 := hb.at hc1
  rw [B119_83, m115 h2 h1 hb (by omega), hL, Option.bind_some, iB, if_pos ht, B119_93, J136_0, Option.bind_some, nI_add, L137s h2 hb hc, Option.bind_some, iE (by omega) (by omega)]
  have st : ∀ s : Nat, (s = 1 ∧ fst1 bs p = p + 2) ∨ (s = 0 ∧ fst1 bs p = p + 1) → ∃ y2 y3 y4 y5, xruns (O2 L) (zden L (d + 2)) 119 111 [.ref 136, .int (nI p), .int x2, .int (bI (tagB bs p)), v4, v5] [.int (nI s)] (ms z (va_up f 48 (nI (p + tagL bs p))) A Al) = xruns (O2 L) (zden L (d + 2)) 119 62 [.ref 136, .int (nI (p + tagL bs p)), y2, y3, y4, y5] [] (ms z (va_up (va_up f 48 (nI (p + tagL bs p))) 10 (nI ((Al 144).length + 1))) A (kTag Al p (p + tagL bs p) s (if isBr bs p = true then 1 else 0))) := by
    intro s hs
    have br0 : (¬ (tagN bs p = 1 ∧ c1 = 112)) → (if isBr bs p = true then (1 : Nat) else 0) = 0 := by
      intro q
      rw [if_neg]
      intro q2
      have := (isBr_eq ht).mp q2
      rw [hc1] at this
      exact q ⟨this.1, by cases this.2; rfl⟩
    have br1 : tagN bs p = 1 → c1 = 112 → (if isBr bs p = true then (1 : Nat) else 0) = 1 := fun q q2 => if_pos ((isBr_eq ht).mpr ⟨q, by rw [hc1, q2]⟩)
    have b181 : ∀ (x4 : Int32), ∃ y2 y3 y4 y5, xruns (O2 L) (zden L (d + 2)) 119 181 [.ref 136, .int (nI p), .int x2, .int (bI (tagB bs p)), .int x4, v5] [.int (nI (fst1 bs p))] (ms z (va_up (va_up f 48 (nI (p + tagL bs p))) 10 (nI ((Al 144).length + 1))) A (va_up (va_up (va_up (va_up Al 144 (Al 144 ++ [p])) 145 (Al 145 ++ [p + tagL bs p])) 146 (Al 146 ++ [s])) 142 ((Al 142).set (Al 139).length 1))) = xruns (O2 L) (zden L (d + 2)) 119 62 [.ref 136, .int (nI (p + tagL bs p)), y2, y3, y4, y5] [] (ms z (va_up (va_up f 48 (nI (p + tagL bs p))) 10 (nI ((Al 144).length + 1))) A (kTag Al p (p + tagL bs p) s (if isBr bs p = true then 1 else 0))) := by
      intro x4
      rw [B119_181, M48r, Option.bind_some, vn _ _ (by omega), vs, pk_sub (by omega), pk_sub (by omega), iE (by omega) (by omega)]
      have id143 : ∀ K : KT, K 143 = Al 143 → va_up K 143 (Al 143) = K := fun K q => by rw [← q]; exact vi _ _
      by_cases e2 : tagN bs p = 1
      · rw [if_pos (by omega), B119_196, J136_0, Option.bind_some, L137s (by simp (disch := omega) only [vn]; exact h2) hb hc1, Option.bind_some, iE (by omega) (by omega)]
        by_cases e3 : c1 = 112
        · rw [if_pos e3, B119_208, br1 e2 e3]
          unfold kTag
          rw [if_pos rfl]
          simp (disch := first | omega | (simp (disch := omega) only [vs, vn, List.length_append, List.length_cons, List.length_nil, List.length_set]; omega)) only [M1b, M1q, M3b, M3q, M4b, M4q, M10b, M10q, M14b, M14q, M19b, M19q, M21b, M21q, M25b, M25q, M30b, M30q, M36b, M36q, M43b, M43q, M47b, M47q, M48b, M48q, M51b, M51q, M55b, M55q, M59b, M59q, M64b, M64q, M66b, M66q, M67b, M67q, M68b, M68q, M69b, M69q, jb136_0, jb136_2, jb136_5, jb136_6, jb136_7, jb136_8, jb136_9, jb136_11, jb136_12, jb136_13, jb136_15, jb136_16, jb136_17, jb136_18, jb136_20, jb136_22, jb136_23, jb136_24, jb136_26, jb136_27, jb136_28, jb136_29, jb136_31, jb136_32, jb136_33, jb136_34, jb136_35, jb136_37, jb136_38, jb136_39, jb136_40, jb136_41, jb136_42, jb136_44, jb136_45, jb136_46, jb136_49, jb136_50, jb136_52, jb136_53, jb136_54, jb136_56, jb136_57, jb136_58, jb136_60, jb136_61, jb136_62, jb136_63, jb136_65, jb136_70, jb136_71, jb136_72, jb136_73, iO0, iO1, nI_add, List.length_map, true_or, or_true, if_true, ↓reduceIte, Nat.reduceEqDiff, Nat.reduceLeDiff, Nat.reduceLT, Nat.reduceAdd, Nat.reduceSub, h4, vs, vn, Ub143, B119_218, B119_347]
          exact ⟨_, _, _, _, rfl⟩
        · rw [if_neg e3, br0 (fun q => e3 q.2), B119_218, M48r, Option.bind_some, vn _ _ (by omega), vs, B119_347]
          unfold kTag
          rw [if_neg (by omega), id143 _ (by simp (disch := omega) only [vn])]
          exact ⟨_, _, _, _, rfl⟩
      · rw [if_neg (by omega), br0 (fun q => e2 q.1), B119_218, M48r, Option.bind_some, vn _ _ (by omega), vs, B119_347]
        unfold kTag
        rw [if_neg (by omega), id143 _ (by simp (disch := omega) only [vn])]
        exact ⟨_, _, _, _, rfl⟩
    rw [B119_111]
    rcases hs with ⟨rfl, hf⟩ | ⟨rfl, hf⟩
    · simp (disch := first | omega | (simp (disch := omega) only [vs, vn, List.length_append, List.length_cons, List.length_nil, List.length_set]; omega)) only [M1b, M1q, M3b, M3q, M4b, M4q, M10b, M10q, M14b, M14q, M19b, M19q, M21b, M21q, M25b, M25q, M30b, M30q, M36b, M36q, M43b, M43q, M47b, M47q, M48b, M48q, M51b, M51q, M55b, M55q, M59b, M59q, M64b, M64q, M66b, M66q, M67b, M67q, M68b, M68q, M69b, M69q, jb136_0, jb136_2, jb136_5, jb136_6, jb136_7, jb136_8, jb136_9, jb136_11, jb136_12, jb136_13, jb136_15, jb136_16, jb136_17, jb136_18, jb136_20, jb136_22, jb136_23, jb136_24, jb136_26, jb136_27, jb136_28, jb136_29, jb136_31, jb136_32, jb136_33, jb136_34, jb136_35, jb136_37, jb136_38, jb136_39, jb136_40, jb136_41, jb136_42, jb136_44, jb136_45, jb136_46, jb136_49, jb136_50, jb136_52, jb136_53, jb136_54, jb136_56, jb136_57, jb136_58, jb136_60, jb136_61, jb136_62, jb136_63, jb136_65, jb136_70, jb136_71, jb136_72, jb136_73, iO0, iO1, nI_add, List.length_map, true_or, or_true, if_true, ↓reduceIte, Nat.reduceEqDiff, Nat.reduceLeDiff, Nat.reduceLT, Nat.reduceAdd, Nat.reduceSub, h4, h10, vs, vn, Ab144, Ab145, Ab146, Ub142, iE, B119_172]
      rw [← hf]
      exact b181 (nI 1)
    · simp (disch := first | omega | (simp (disch := omega) only [vs, vn, List.length_append, List.length_cons, List.length_nil, List.length_set]; omega)) only [M1b, M1q, M3b, M3q, M4b, M4q, M10b, M10q, M14b, M14q, M19b, M19q, M21b, M21q, M25b, M25q, M30b, M30q, M36b, M36q, M43b, M43q, M47b, M47q, M48b, M48q, M51b, M51q, M55b, M55q, M59b, M59q, M64b, M64q, M66b, M66q, M67b, M67q, M68b, M68q, M69b, M69q, jb136_0, jb136_2, jb136_5, jb136_6, jb136_7, jb136_8, jb136_9, jb136_11, jb136_12, jb136_13, jb136_15, jb136_16, jb136_17, jb136_18, jb136_20, jb136_22, jb136_23, jb136_24, jb136_26, jb136_27, jb136_28, jb136_29, jb136_31, jb136_32, jb136_33, jb136_34, jb136_35, jb136_37, jb136_38, jb136_39, jb136_40, jb136_41, jb136_42, jb136_44, jb136_45, jb136_46, jb136_49, jb136_50, jb136_52, jb136_53, jb136_54, jb136_56, jb136_57, jb136_58, jb136_60, jb136_61, jb136_62, jb136_63, jb136_65, jb136_70, jb136_71, jb136_72, jb136_73, iO0, iO1, nI_add, List.length_map, true_or, or_true, if_true, ↓reduceIte, Nat.reduceEqDiff, Nat.reduceLeDiff, Nat.reduceLT, Nat.reduceAdd, Nat.reduceSub, h4, h10, vs, vn, Ab144, Ab145, Ab146, Ub142, iE, B119_178]
      rw [← hf]
      exact b181 (nI 0)
  by_cases e : c = 47
  · have e47 : bs[p + 1]? = some 47 := by rw [hc, e]
    rw [if_pos e, B119_106, if_pos e47]
    exact st 1 (Or.inl ⟨rfl, if_pos e47⟩)
  · have e47 : ¬ bs[p + 1]? = some 47 := by rw [hc]; intro q; cases q; exact e rfl
    rw [if_neg e, B119_110, if_neg e47]
    exact st 0 (Or.inr ⟨rfl, if_neg e47⟩)
theorem m119_sign (hb : BB bs) (h2 : Al 137 = bs) (h4 : f 4 = nI (Al 139).length) (w : KW p Al) {n c : Nat} (hp : p + n ≤ bs.length) (hn : 1 ≤ n) (hc : bs[p]? = some c) (hn2 : c = 38 → n = nameL bs p) {v3 v4 v5 : Value} :
    ∃ y2 y3 y4 y5, xruns (O2 L) (zden L (d + 2)) 119 241 [.ref 136, .int (nI p), .int (nI c), v3, v4, v5] [.int (nI n)] (ms z f A Al) = xruns (O2 L) (zden L (d + 2)) 119 62 [.ref 136, .int (nI (p + n)), y2, y3, y4, y5] [] (ms z (va_up f 4 (nI ((Al 139).length + 1))) A (kSign Al (kCh bs p) p (p + n))) := by
  have hb2 := hb.2
  obtain ⟨w1, w2, w3, w4, w5, w6, w7, w8⟩ := w
  have c256 := hb.at hc
  have b290 : ∀ ch : Nat, ∃ y2 y3 y4 y5, xruns (O2 L) (zden L (d + 2)) 119 290 [.ref 136, .int (nI p), .int (nI c), .int (nI n), v4, v5] [.int (nI ch), .int (nI (Al 139).length), .ref 139] (ms z f A Al) = xruns (O2 L) (zden L (d + 2)) 119 62 [.ref 136, .int (nI (p + n)), y2, y3, y4, y5] [] (ms z (va_up f 4 (nI ((Al 139).length + 1))) A (kSign Al ch p (p + n))) := by
    intro ch
    rw [B119_290]
    simp (disch := first | omega | (simp (disch := omega) only [vs, vn, List.length_append, List.length_cons, List.length_nil, List.length_set]; omega)) only [M1b, M1q, M3b, M3q, M4b, M4q, M10b, M10q, M14b, M14q, M19b, M19q, M21b, M21q, M25b, M25q, M30b, M30q, M36b, M36q, M43b, M43q, M47b, M47q, M48b, M48q, M51b, M51q, M55b, M55q, M59b, M59q, M64b, M64q, M66b, M66q, M67b, M67q, M68b, M68q, M69b, M69q, jb136_0, jb136_2, jb136_5, jb136_6, jb136_7, jb136_8, jb136_9, jb136_11, jb136_12, jb136_13, jb136_15, jb136_16, jb136_17, jb136_18, jb136_20, jb136_22, jb136_23, jb136_24, jb136_26, jb136_27, jb136_28, jb136_29, jb136_31, jb136_32, jb136_33, jb136_34, jb136_35, jb136_37, jb136_38, jb136_39, jb136_40, jb136_41, jb136_42, jb136_44, jb136_45, jb136_46, jb136_49, jb136_50, jb136_52, jb136_53, jb136_54, jb136_56, jb136_57, jb136_58, jb136_60, jb136_61, jb136_62, jb136_63, jb136_65, jb136_70, jb136_71, jb136_72, jb136_73, iO0, iO1, nI_add, List.length_map, true_or, or_true, if_true, ↓reduceIte, Nat.reduceEqDiff, Nat.reduceLeDiff, Nat.reduceLT, Nat.reduceAdd, Nat.reduceSub, h4, vs, vn, Ab139, Ab140, Ab141, Ab142, Ab143, B119_347]
    exact ⟨_, _, _, _, rfl⟩
  rw [B119_241, J136_5, Option.bind_some, M4r, Option.bind_some, h4, iE (by omega) (by omega)]
  unfold kCh
  rw [gDo hc]
  by_cases e : c = 38
  · obtain rfl := hn2 e
    rw [if_pos e, if_pos e, B119_260]
    have nl : nameL bs p ≤ 5 := by
      unfold nameL
      split
      · omega
      · split <;> omega
    rw [iE (by omega) (by omega)]
    by_cases e2 : nameL bs p = 5
    · rw [if_pos e2, if_pos e2, B119_265]
      exact b290 38
    · obtain ⟨c1, hc1⟩ : ∃ c, bs[p + 1]? = some c := ⟨_, List.getElem?_eq_getElem (by
        have : nameL bs p = 4 := by
          unfold nameL at e2 hn ⊢
          split
          · rfl
          · rename_i q
            rw [if_neg q] at e2 hn
            split
            · rename_i q2
              rw [if_pos q2] at e2
              omega
            · rename_i q2
              rw [if_neg q2] at hn
              omega
        omega)⟩
      have c1256 := hb.at hc1
      rw [if_neg e2, if_neg e2, B119_270, J136_0, Option.bind_some, nI_add, L137s h2 hb hc1, Option.bind_some, iE (by omega) (by omega), hc1]
      by_cases e3 : c1 = 108
      · rw [if_pos e3, if_pos (by rw [e3]), B119_283]
        exact b290 60
      · rw [if_neg e3, if_neg (by intro q; cases q; exact e3 rfl), B119_288]
        exact b290 62
  · rw [if_neg e, if_neg e, B119_256]
    exact b290 c
end
