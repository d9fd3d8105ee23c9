/-! THE REFERENCE: signs, tags, names -/
section
variable {L d : Nat} {z : zS}
theorem m110 {o : Option Nat} (ho : ∀ k, o = some k → k < 256) : zden L (d + 1) 110 [.int (oz o)] z = some (bI (o.any isSm), z) := by
  rw [N110, B110_0]
  by_cases h1 : oz o < nI 97
  · rw [if_pos h1, B110_16, B110_17, iO0]
    have := (oz_lt ho (by omega)).mp h1
    cases o with
    | none => rfl
    | some k =>
      have := this k rfl
      have e : isSm k = false := by simp [isSm]; omega
      show some (nI 0, z) = some (bI (isSm k), z)
      rw [e]; rfl
  · rw [if_neg h1, B110_6]
    by_cases h2 : nI 122 < oz o
    · rw [if_pos h2, B110_16, B110_17, iO0]
      obtain ⟨k, rfl, hk⟩ := (le_oz ho (by omega)).mp h2
      have e : isSm k = false := by simp [isSm]; omega
      show some (nI 0, z) = some (bI (isSm k), z)
      rw [e]; rfl
    · rw [if_neg h2, B110_12, B110_17, iO1]
      rw [oz_lt ho (by omega)] at h1
      rw [le_oz ho (by omega)] at h2
      cases o with
      | none => exact absurd (fun k q => by cases q) h1
      | some k =>
        have a1 : 97 ≤ k := Nat.not_lt.mp fun q => h1 (fun j hj => by cases hj; exact q)
        have a2 : k ≤ 122 := Nat.not_lt.mp fun q => h2 ⟨k, rfl, q⟩
        simp [isSm, bI, a1, a2]
theorem m111 {o : Option Nat} (ho : ∀ k, o = some k → k < 256) : zden L (d + 1) 111 [.int (oz o)] z = some (oz (o.map lo), z) := by
  rw [N111, B111_0]
  by_cases h1 : oz o < nI 65
  · rw [if_pos h1, B111_19, B111_20]
    have := (oz_lt ho (by omega)).mp h1
    cases o with
    | none => rfl
    | some k =>
      have := this k rfl
      have e : lo k = k := by unfold lo isUp; rw [if_neg (by simp; omega)]
      show some (nI k, z) = some (nI (lo k), z)
      rw [e]
  · rw [if_neg h1, B111_6]
    by_cases h2 : nI 90 < oz o
    · rw [if_pos h2, B111_19, B111_20]
      obtain ⟨k, rfl, hk⟩ := (le_oz ho (by omega)).mp h2
      have e : lo k = k := by unfold lo isUp; rw [if_neg (by simp; omega)]
      show some (nI k, z) = some (nI (lo k), z)
      rw [e]
    · rw [if_neg h2, B111_12, B111_20]
      rw [oz_lt ho (by omega)] at h1
      rw [le_oz ho (by omega)] at h2
      cases o with
      | none => exact absurd (fun k q => by cases q) h1
      | some k =>
        have a1 : 65 ≤ k := Nat.not_lt.mp fun q => h1 (fun j hj => by cases hj; exact q)
        have a2 : k ≤ 90 := Nat.not_lt.mp fun q => h2 ⟨k, rfl, q⟩
        have e : lo k = k + 32 := by unfold lo isUp; rw [if_pos (by simp; omega)]
        show some (nI k + nI 32, z) = some (nI (lo k), z)
        rw [e, nI_add]
theorem lo_lt {k : Nat} (h : k < 256) : lo k < 256 := by
  unfold lo isUp
  split
  · rename_i q; simp at q; omega
  · exact h
theorem isWd_lo (k : Nat) : isWd k = (isSm (lo k) || isFg k) := by
  have hu : isUp k = (decide (65 ≤ k) && decide (k ≤ 90)) := rfl
  unfold isWd lo
  by_cases h : isUp k = true
  · rw [if_pos h, h]
    rw [hu] at h
    simp at h
    have : isSm (k + 32) = true := by simp [isSm]; omega
    rw [this]; simp
  · rw [if_neg h]
    simp at h
    rw [h]; simp
theorem m112 {o : Option Nat} (ho : ∀ k, o = some k → k < 256) : zden L (d + 2) 112 [.int (oz o)] z = some (bI (o.any isWd), z) := by
  have ho' : ∀ k, o.map lo = some k → k < 256 := by
    intro k hk
    cases o with
    | none => cases hk
    | some j => cases hk; exact lo_lt (ho j rfl)
  rw [N112, B112_0, m111 ho, Option.bind_some, m110 ho', Option.bind_some, iB]
  cases o with
  | none =>
    have lt : ∀ c, c < 256 → oz none < nI c := fun c hc => (oz_lt (fun k q => by cases q) (by omega)).mpr (fun k q => by cases q)
    rw [if_neg (by decide), B112_10, if_pos (lt 48 (by omega)), B112_26, B112_27, iO0]; rfl
  | some k =>
    have hk := ho k rfl
    show (if isSm (lo k) = true then xruns (O2 L) (zden L (d + 1)) 112 22 [.int (nI k)] [] z else xruns (O2 L) (zden L (d + 1)) 112 10 [.int (nI k)] [] z) = some (bI (isWd k), z)
    rw [isWd_lo]
    by_cases h : isSm (lo k) = true
    · rw [if_pos h, h, B112_22, B112_27, iO1]; rfl
    · rw [if_neg h, B112_10, iT (by omega) (by omega)]
      simp only [Bool.not_eq_true] at h
      rw [h]
      by_cases h1 : k < 48
      · have e : isFg k = false := by simp [isFg]; omega
        rw [if_pos h1, B112_26, B112_27, iO0, e]; rfl
      · rw [if_neg h1, B112_16, iT (by omega) (by omega)]
        by_cases h2 : 57 < k
        · have e : isFg k = false := by simp [isFg]; omega
          rw [if_pos h2, B112_26, B112_27, iO0, e]; rfl
        · have e : isFg k = true := by simp [isFg]; omega
          rw [if_neg h2, B112_22, B112_27, iO1, e]; rfl
end
section
variable {L d : Nat} {z : zS} {f : Nat → Int32} {A : Nat → Nat → Int32} {Al : Nat → List Nat} {bs : List Nat} {p : Nat}
/-- a byte of the tape -/
theorem L137s (hz : Al 137 = bs) (hb : BB bs) {i c : Nat} (hc : bs[i]? = some c) : (O2 L).2.2.2.2.2.1 (ms z f A Al) 0 137 (nI i) = some (nI c) := by
  obtain ⟨h1, _⟩ := List.getElem?_eq_some_iff.mp hc
  rw [L137 (by rw [hz]; exact h1) (by have := hb.2; omega), hz, gDo hc]
theorem m115_loop (hz : Al 137 = bs) (hf : f 1 = nI bs.length) (hb : BB bs) {k0 : Nat} {x1 : Int32} : ∀ (r n : Nat), lrun bs k0 = n + r → k0 + n ≤ 2000 → xruns (O2 L) (zden L (d + 1)) 115 28 [.ref 136, .int x1, .int (nI (k0 + n)), .int (nI n)] [] (ms z f A Al) = xruns (O2 L) (zden L (d + 1)) 115 57 [.ref 136, .int x1, .int (nI (k0 + lrun bs k0)), .int (nI (lrun bs k0))] [] (ms z f A Al) := by
  have hb2 := hb.2
  intro r
  induction r with
  | zero =>
    intro n hn hk
    have hn' : n = lrun bs k0 := by omega
    have he := lrun_end bs k0
    rw [B115_28, M1r, Option.bind_some, hf, iL (by omega) (by omega)]
    by_cases h : bs.length ≤ k0 + n
    · rw [if_pos h, hn']
    · obtain ⟨c, hc⟩ : ∃ c, bs[k0 + n]? = some c := ⟨_, List.getElem?_eq_getElem (by omega)⟩
      rw [← hn', hc] at he
      rw [if_neg h, B115_36, J136_0, Option.bind_some, L137s hz hb hc, Option.bind_some, ← ozs, m110 (fun k q => by cases q; exact hb.at hc), Option.bind_some, iB, if_neg (by rw [he]; decide), hn']
  | succ r ih =>
    intro n hn hk
    have he := lrun_lt (bs := bs) (k := k0) (i := n) (by omega)
    cases hc : bs[k0 + n]? with
    | none => rw [hc] at he; cases he
    | some c =>
      rw [hc] at he
      obtain ⟨h1, _⟩ := List.getElem?_eq_some_iff.mp hc
      rw [B115_28, M1r, Option.bind_some, hf, iL (by omega) (by omega), if_neg (by omega), B115_36, J136_0, Option.bind_some, L137s hz hb hc, Option.bind_some, ← ozs, m110 (fun k q => by cases q; exact hb.at hc), Option.bind_some, iB, if_pos he, B115_48, nI_add, nI_add]
      exact ih (n + 1) (by omega) (by omega)
theorem m115 (hz : Al 137 = bs) (hf : f 1 = nI bs.length) (hb : BB bs) (hp : p ≤ 1000) : zden L (d + 2) 115 [.ref 136, .int (nI p)] (ms z f A Al) = some (bI (tagB bs p), ms z (va_up f 48 (nI (fst1 bs p + tagN bs p + 1))) A Al) := by
  have hb2 := hb.2
  have hl : fst1 bs p + tagN bs p ≤ 1002 := by
    have := fst1_le bs p
    unfold tagN
    by_cases h : lrun bs (fst1 bs p) = 0
    · omega
    · have he := lrun_lt (bs := bs) (k := fst1 bs p) (i := lrun bs (fst1 bs p) - 1) (by omega)
      cases hc : bs[fst1 bs p + (lrun bs (fst1 bs p) - 1)]? with
      | none => rw [hc] at he; cases he
      | some c =>
        obtain ⟨h1, _⟩ := List.getElem?_eq_some_iff.mp hc
        omega
  have tail : xruns (O2 L) (zden L (d + 1)) 115 26 [.ref 136, .int (nI p), .int (nI (fst1 bs p)), .null] [] (ms z f A Al) = some (bI (tagB bs p), ms z (va_up f 48 (nI (fst1 bs p + tagN bs p + 1))) A Al) := by
    have e := m115_loop (L := L) (d := d) (z := z) (f := f) (A := A) hz hf hb (k0 := fst1 bs p) (x1 := nI p) (lrun bs (fst1 bs p)) 0 (by omega) (by omega)
    rw [B115_26]
    refine Eq.trans e ?_
    rw [B115_57, M48p, Option.bind_some, nI_add]
    unfold tagB
    show (if nI (tagN bs p) < nI 1 then _ else _) = _
    rw [iT (by omega) (by omega)]
    by_cases h1 : tagN bs p < 1
    · rw [if_pos h1, B115_98, B115_99, iO0, decide_eq_false (by omega : ¬ 1 ≤ tagN bs p)]; rfl
    · rw [if_neg h1, B115_69]
      show (if nI 8 < nI (tagN bs p) then _ else _) = _
      rw [iT (by omega) (by omega)]
      by_cases h2 : 8 < tagN bs p
      · rw [if_pos h2, B115_98, B115_99, iO0, decide_eq_false (by omega : ¬ tagN bs p ≤ 8)]; simp only [Bool.and_false, Bool.false_and]; rfl
      · rw [if_neg h2, B115_75, M1r, Option.bind_some, vn _ _ (by omega), hf]
        show (if nI bs.length ≤ nI (fst1 bs p + tagN bs p) then _ else _) = _
        rw [iL (by omega) (by omega)]
        by_cases h3 : bs.length ≤ fst1 bs p + tagN bs p
        · rw [if_pos h3, B115_98, B115_99, iO0, List.getElem?_eq_none h3, decide_eq_false (show ¬ (none : Option Nat) = some 62 from fun q => by cases q)]; simp only [Bool.and_false]; rfl
        · obtain ⟨c, hc⟩ : ∃ c, bs[fst1 bs p + tagN bs p]? = some c := ⟨_, List.getElem?_eq_getElem (by omega)⟩
          have c256 := hb.at hc
          rw [if_neg h3, B115_83, J136_0, Option.bind_some, L137s hz hb (i := fst1 bs p + lrun bs (fst1 bs p)) hc, Option.bind_some, iE (by omega) (by omega), hc]
          by_cases h4 : c = 62
          · rw [if_pos h4, B115_94, B115_99, iO1, h4, decide_eq_true (by omega : 1 ≤ tagN bs p), decide_eq_true (by omega : tagN bs p ≤ 8)]; rfl
          · rw [if_neg h4, B115_98, B115_99, iO0, decide_eq_false (show ¬ some c = some 62 from fun q => h4 (by cases q; rfl))]; simp only [Bool.and_false, Bool.false_and]; rfl
  rw [N115 _ _ ob136, B115_0, M1r, Option.bind_some, hf, nI_add, iL (by omega) (by omega)]
  unfold fst1 at tail ⊢
  by_cases h : bs.length ≤ p + 1
  · rw [if_pos h]
    rw [if_neg (by rw [List.getElem?_eq_none h]; decide)] at tail ⊢
    exact tail
  · obtain ⟨c, hc⟩ : ∃ c, bs[p + 1]? = some c := ⟨_, List.getElem?_eq_getElem (by omega)⟩
    have c256 := hb.at hc
    rw [if_neg h, B115_12, J136_0, Option.bind_some, L137s hz hb hc, Option.bind_some, iE (by omega) (by omega)]
    by_cases h4 : c = 47
    · rw [if_pos h4, B115_23, nI_add]
      rw [if_pos (by rw [hc, h4])] at tail ⊢
      exact tail
    · rw [if_neg h4]
      rw [if_neg (by rw [hc]; exact fun q => h4 (by cases q; rfl))] at tail ⊢
      exact tail
/-- the same letters, as the reference compares them -/
def sameM (bs : List Nat) (a b : Nat) : Nat → Nat → Bool
  | 0, _ => true
  | r + 1, i => if bs[a + i]? = bs[b + i]? then sameM bs a b r (i + 1) else false
theorem m116 (hz : Al 137 = bs) (hb : BB bs) {a b n : Nat} (ha : a + n ≤ bs.length) (hb' : b + n ≤ bs.length) : zden L (d + 1) 116 [.ref 137, .int (nI a), .int (nI b), .int (nI n)] (ms z f A Al) = some (bI (sameM bs a b n 0), ms z f A Al) := by
  have hb2 := hb.2
  have lp : ∀ (r i : Nat), i + r = n → xruns (O2 L) (zden L d) 116 3 [.ref 137, .int (nI a), .int (nI b), .int (nI n), .int (nI i)] [] (ms z f A Al) = some (bI (sameM bs a b r i), ms z f A Al) := by
    intro r
    induction r with
    | zero =>
      intro i hi
      rw [B116_3, iL (by omega) (by omega), if_pos (by omega), B116_32, iO1]
      rfl
    | succ r ih =>
      intro i hi
      obtain ⟨c, hc⟩ : ∃ c, bs[a + i]? = some c := ⟨_, List.getElem?_eq_getElem (by omega)⟩
      obtain ⟨e, he⟩ : ∃ e, bs[b + i]? = some e := ⟨_, List.getElem?_eq_getElem (by omega)⟩
      have c1 := hb.at hc
      have c2 := hb.at he
      rw [B116_3, iL (by omega) (by omega), if_neg (by omega), B116_9, nI_add, L137s hz hb hc, Option.bind_some, nI_add, L137s hz hb he, Option.bind_some, iE (by omega) (by omega)]
      unfold sameM
      rw [hc, he]
      by_cases h : c = e
      · rw [if_pos h, if_pos (by rw [h]), B116_26, nI_add]
        exact ih (i + 1) (by omega)
      · rw [if_neg h, if_neg (fun q => h (by cases q; rfl)), B116_24, iO0]; rfl
  rw [N116, B116_0]
  exact lp n 0 (by omega)
theorem m117 (hz : Al 137 = bs) (hf : f 1 = nI bs.length) (hb : BB bs) (hp : p ≤ 1000) : zden L (d + 1) 117 [.ref 136, .int (nI p)] (ms z f A Al) = some (nI (nameL bs p), ms z f A Al) := by
  have hb2 := hb.2
  have second : ∀ s : Nat, s ≤ 1 → xruns (O2 L) (zden L d) 117 67 [.ref 136, .int (nI p), .null, .null] [.int (nI s)] (ms z f A Al) = some (nI (if s = 1 then 4 else if bs[p + 1]? = some 97 ∧ bs[p + 2]? = some 109 ∧ bs[p + 3]? = some 112 ∧ bs[p + 4]? = some 59 then 5 else 0), ms z f A Al) := by
    intro s hs
    have fin : ∀ u : Nat, u ≤ 1 → xruns (O2 L) (zden L d) 117 135 [.ref 136, .int (nI p), .int (nI s), .null] [.int (nI u)] (ms z f A Al) = some (nI (if s = 1 then 4 else if u = 1 then 5 else 0), ms z f A Al) := by
      intro u hu
      rw [B117_135, iE (by omega) (by omega)]
      by_cases h : s = 0
      · rw [if_pos h, B117_144, iE (by omega) (by omega), if_neg (by omega : ¬ s = 1)]
        by_cases h2 : u = 0
        · rw [if_pos h2, B117_152, B117_153, if_neg (by omega : ¬ u = 1)]
        · rw [if_neg h2, B117_148, B117_153, if_pos (by omega : u = 1)]
      · rw [if_neg h, B117_140, B117_153, if_pos (by omega : s = 1)]
    have no : xruns (O2 L) (zden L d) 117 134 [.ref 136, .int (nI p), .int (nI s), .null] [] (ms z f A Al) = some (nI (if s = 1 then 4 else 0), ms z f A Al) := by
      rw [B117_134, fin 0 (by omega)]
      simp
    rw [B117_67, M1r, Option.bind_some, hf, nI_add, iL (by omega) (by omega)]
    by_cases h : bs.length ≤ p + 4
    · rw [if_pos h, no, List.getElem?_eq_none h]; simp
    · have g : ∀ i, i ≤ 4 → ∃ c, bs[p + i]? = some c ∧ c < 256 ∧ (O2 L).2.2.2.2.2.1 (ms z f A Al) 0 137 (nI (p + i)) = some (nI c) := fun i hi => ⟨_, List.getElem?_eq_getElem (by omega), hb.at (List.getElem?_eq_getElem (by omega)), L137s hz hb (List.getElem?_eq_getElem (by omega))⟩
      obtain ⟨q1, h1, b1, l1⟩ := g 1 (by omega)
      obtain ⟨q2, h2, b2, l2⟩ := g 2 (by omega)
      obtain ⟨q3, h3, b3, l3⟩ := g 3 (by omega)
      obtain ⟨q4, h4, b4, l4⟩ := g 4 (by omega)
      rw [if_neg h, B117_78, J136_0, Option.bind_some, nI_add, l1, Option.bind_some, iE (by omega) (by omega), h1, h2, h3, h4]
      simp only [Option.some.injEq]
      by_cases e1 : q1 = 97
      · rw [if_pos e1, B117_91, J136_0, Option.bind_some, nI_add, l2, Option.bind_some, iE (by omega) (by omega)]
        by_cases e2 : q2 = 109
        · rw [if_pos e2, B117_104, J136_0, Option.bind_some, nI_add, l3, Option.bind_some, iE (by omega) (by omega)]
          by_cases e3 : q3 = 112
          · rw [if_pos e3, B117_117, J136_0, Option.bind_some, nI_add, l4, Option.bind_some, iE (by omega) (by omega)]
            by_cases e4 : q4 = 59
            · rw [if_pos e4, B117_130, fin 1 (by omega)]; simp [e1, e2, e3, e4]
            · rw [if_neg e4, no]; simp [e4]
          · rw [if_neg e3, no]; simp [e3]
        · rw [if_neg e2, no]; simp [e2]
      · rw [if_neg e1, no]; simp [e1]
  have no : ¬ ((bs[p + 1]? = some 108 ∨ bs[p + 1]? = some 103) ∧ bs[p + 2]? = some 116 ∧ bs[p + 3]? = some 59) → xruns (O2 L) (zden L d) 117 66 [.ref 136, .int (nI p), .null, .null] [] (ms z f A Al) = some (nI (nameL bs p), ms z f A Al) := by
    intro h
    rw [B117_66, second 0 (by omega)]
    unfold nameL
    rw [if_neg h]
    simp
  rw [N117 _ _ ob136, B117_0, M1r, Option.bind_some, hf, nI_add, iL (by omega) (by omega)]
  by_cases h : bs.length ≤ p + 3
  · rw [if_pos h, no (by rw [List.getElem?_eq_none h]; simp)]
  · have g : ∀ i, i ≤ 3 → ∃ c, bs[p + i]? = some c ∧ c < 256 ∧ (O2 L).2.2.2.2.2.1 (ms z f A Al) 0 137 (nI (p + i)) = some (nI c) := fun i hi => ⟨_, List.getElem?_eq_getElem (by omega), hb.at (List.getElem?_eq_getElem (by omega)), L137s hz hb (List.getElem?_eq_getElem (by omega))⟩
    obtain ⟨q1, h1, b1, l1⟩ := g 1 (by omega)
    obtain ⟨q2, h2, b2, l2⟩ := g 2 (by omega)
    obtain ⟨q3, h3, b3, l3⟩ := g 3 (by omega)
    rw [h1, h2, h3] at no
    simp only [Option.some.injEq] at no
    have from36 : q1 = 108 ∨ q1 = 103 → xruns (O2 L) (zden L d) 117 36 [.ref 136, .int (nI p), .null, .null] [] (ms z f A Al) = some (nI (nameL bs p), ms z f A Al) := by
      intro e1
      rw [B117_36, J136_0, Option.bind_some, nI_add, l2, Option.bind_some, iE (by omega) (by omega)]
      by_cases e2 : q2 = 116
      · rw [if_pos e2, B117_49, J136_0, Option.bind_some, nI_add, l3, Option.bind_some, iE (by omega) (by omega)]
        by_cases e3 : q3 = 59
        · rw [if_pos e3, B117_62, second 1 (by omega)]
          unfold nameL
          rw [if_pos rfl, h1, h2, h3, if_pos]
          simp [e1, e2, e3]
        · rw [if_neg e3, no (by simp [e3])]
      · rw [if_neg e2, no (by simp [e2])]
    rw [if_neg h, B117_10, J136_0, Option.bind_some, nI_add, l1, Option.bind_some, iE (by omega) (by omega)]
    by_cases e1 : q1 = 108
    · rw [if_pos e1, from36 (Or.inl e1)]
    · rw [if_neg e1, B117_23, J136_0, Option.bind_some, nI_add, l1, Option.bind_some, iE (by omega) (by omega)]
      by_cases e1' : q1 = 103
      · rw [if_pos e1', from36 (Or.inr e1')]
      · rw [if_neg e1', no (by simp [e1, e1'])]
end
