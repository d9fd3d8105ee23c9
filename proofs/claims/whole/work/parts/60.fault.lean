/-! THE REFERENCE: fault -/
theorem ms_trunc {z : zS} {f : Nat → Int32} {A : Nat → Nat → Int32} {Al : Nat → List Nat} (a n : Nat) : ∃ A', ms z f A Al = ms z f A' (va_up Al a ((Al a).take n)) ∧ A' 0 = A 0 := by
  refine ⟨fun b i => if b = a ∧ 137 ≤ b ∧ i < (Al b).length then nI ((Al b).getD i 0) else A b i, ?_, ?_⟩
  · unfold ms
    refine Prod.ext rfl (Prod.ext rfl (Prod.ext (funext fun b => funext fun i => ?_) rfl))
    simp only
    by_cases h : b = a
    · subst h
      rw [va_up_self]
      simp only [true_and, List.length_take]
      by_cases h2 : 137 ≤ b ∧ i < (Al b).length
      · rw [if_pos h2]
        split
        · rename_i q
          simp only [List.getD]
          rw [List.getElem?_take, if_pos (by omega)]
        · rfl
      · rw [if_neg h2, if_neg (by omega)]
    · rw [va_up_ne _ _ h]
      simp only [h, false_and, if_false]
  · funext i
    simp
/-- what else than the fields fs and the arrays as is as it was -/
def FrM (fs as : List Nat) (f : Nat → Int32) (A : Nat → Nat → Int32) (Al : Nat → List Nat) (f' : Nat → Int32) (A' : Nat → Nat → Int32) (Al' : Nat → List Nat) : Prop := A' 0 = A 0 ∧ (∀ k, k ∉ fs → f' k = f k) ∧ (∀ a, a ∉ as → Al' a = Al a)
theorem FrM.refl {fs as : List Nat} {f : Nat → Int32} {A : Nat → Nat → Int32} {Al : Nat → List Nat} : FrM fs as f A Al f A Al := ⟨rfl, fun _ _ => rfl, fun _ _ => rfl⟩
theorem FrM.trans {fs as : List Nat} {f f' f'' : Nat → Int32} {A A' A'' : Nat → Nat → Int32} {Al Al' Al'' : Nat → List Nat} (h : FrM fs as f A Al f' A' Al') (h' : FrM fs as f' A' Al' f'' A'' Al'') : FrM fs as f A Al f'' A'' Al'' := ⟨h'.1.trans h.1, fun k q => (h'.2.1 k q).trans (h.2.1 k q), fun a q => (h'.2.2 a q).trans (h.2.2 a q)⟩
theorem FrM.f {fs as : List Nat} {f : Nat → Int32} {A : Nat → Nat → Int32} {Al : Nat → List Nat} {k : Nat} {x : Int32} (h : k ∈ fs) : FrM fs as f A Al (va_up f k x) A Al := ⟨rfl, fun j q => vn _ _ (fun e => q (e ▸ h)), fun _ _ => rfl⟩
theorem FrM.a {fs as : List Nat} {f : Nat → Int32} {A : Nat → Nat → Int32} {Al : Nat → List Nat} {a : Nat} {l : List Nat} (h : a ∈ as) : FrM fs as f A Al f A (va_up Al a l) := ⟨rfl, fun _ _ => rfl, fun j q => vn _ _ (fun e => q (e ▸ h))⟩
theorem FrM.j {fs as : List Nat} {f : Nat → Int32} {A A' : Nat → Nat → Int32} {Al : Nat → List Nat} (h : A' 0 = A 0) : FrM fs as f A Al f A' Al := ⟨h, fun _ _ => rfl, fun _ _ => rfl⟩
theorem FrM.mono {fs as fs' as' : List Nat} {f f' : Nat → Int32} {A A' : Nat → Nat → Int32} {Al Al' : Nat → List Nat} (h : FrM fs as f A Al f' A' Al') (h1 : ∀ k ∈ fs, k ∈ fs') (h2 : ∀ k ∈ as, k ∈ as') : FrM fs' as' f A Al f' A' Al' := ⟨h.1, fun k q => h.2.1 k (fun e => q (h1 k e)), fun a q => h.2.2 a (fun e => q (h2 a e))⟩
theorem nI_m1 {n : Nat} (h : 1 ≤ n) : nI n + (-1) = nI (n - 1) := by
  rw [← pk_sub h, Int32.sub_eq_add_neg]
  rfl
def OpOk (bs op : List Nat) : Prop := ∀ o ∈ op, tagB bs o = true ∧ bs[o + 1]? ≠ some 47
theorem opT_ok {bs op : List Nat} {p : Nat} (h : OpOk bs op) (ht : tagB bs p = true) : OpOk bs (opT bs p op).2 := by
  unfold opT
  split
  · split
    · exact h
    · split
      · exact fun o q => h o (List.mem_of_mem_take q)
      · exact h
  · rename_i e
    split
    · intro o q
      rcases List.mem_append.mp q with q | q
      · exact h o q
      · rw [List.mem_singleton.mp q]
        exact ⟨ht, e⟩
    · exact h
theorem tagB_at {bs : List Nat} {p : Nat} (h : tagB bs p = true) : 1 ≤ tagN bs p ∧ tagN bs p ≤ 8 ∧ bs[fst1 bs p + tagN bs p]? = some 62 ∧ ∀ i, i < tagN bs p → bs[fst1 bs p + i]?.any isSm = true := by
  unfold tagB at h
  simp only [Bool.and_eq_true, decide_eq_true_eq] at h
  exact ⟨h.1.1, h.1.2, h.2, fun i hi => lrun_lt hi⟩
theorem same_eq {bs : List Nat} {o p : Nat} (h1 : tagB bs o = true) (h2 : bs[o + 1]? ≠ some 47) (h3 : tagB bs p = true) (h4 : bs[p + 1]? = some 47) : sameL bs o p 9 0 = (decide (tagN bs o = tagN bs p) && sameM bs (o + 1) (p + 2) (tagN bs p) 0) := by
  obtain ⟨a1, a2, a3, a4⟩ := tagB_at h1
  obtain ⟨b1, b2, b3, b4⟩ := tagB_at h3
  have fo : fst1 bs o = o + 1 := if_neg h2
  have fp : fst1 bs p = p + 2 := if_pos h4
  rw [fo] at a3 a4
  rw [fp] at b3 b4
  have sm : ∀ x : Option Nat, x.any isSm = true → x ≠ some 62 := by
    intro x hx q
    rw [q] at hx
    revert hx
    decide
  have key : ∀ (r i : Nat), i + r = 9 → i ≤ tagN bs o → i ≤ tagN bs p → sameL bs o p r i = (decide (tagN bs o = tagN bs p) && sameM bs (o + 1) (p + 2) (tagN bs p - i) i) := by
    intro r
    induction r with
    | zero => intro i hi h h'; omega
    | succ r ih =>
      intro i hi h h'
      unfold sameL
      by_cases e1 : i < tagN bs o
      · have l1 := sm _ (a4 i e1)
        by_cases e2 : i < tagN bs p
        · rw [show tagN bs p - i = (tagN bs p - (i + 1)) + 1 by omega]
          unfold sameM
          by_cases e : bs[o + 1 + i]? = bs[p + 2 + i]?
          · rw [if_pos e, if_neg l1, if_pos e]
            exact ih (i + 1) (by omega) (by omega) (by omega)
          · rw [if_neg e, if_neg e, Bool.and_false]
        · have : i = tagN bs p := by omega
          rw [if_neg (fun q => by rw [this, b3] at q; rw [this] at l1; exact l1 q), decide_eq_false (by omega), Bool.false_and]
      · have eo : i = tagN bs o := by omega
        by_cases e2 : i < tagN bs p
        · have l2 := sm _ (b4 i e2)
          rw [if_neg (fun q => l2 (by rw [← q, eo, a3])), decide_eq_false (by omega), Bool.false_and]
        · have ep : i = tagN bs p := by omega
          rw [if_pos (by rw [eo, a3, ← eo, ep, b3]), if_pos (by rw [eo, a3]), decide_eq_true (by omega), show tagN bs p - i = 0 by omega]
          rfl
  have := key 9 0 (by omega) (by omega) (by omega)
  rw [Nat.sub_zero] at this
  exact this
theorem isBr_eq {bs : List Nat} {p : Nat} (h : tagB bs p = true) : isBr bs p = true ↔ tagN bs p = 1 ∧ bs[fst1 bs p]? = some 112 := by
  obtain ⟨b1, b2, b3, b4⟩ := tagB_at h
  unfold isBr
  simp only [Bool.and_eq_true, decide_eq_true_eq]
  constructor
  · intro ⟨q1, q2⟩
    refine ⟨?_, q1⟩
    by_cases e : tagN bs p = 1
    · exact e
    · have := b4 1 (by omega)
      rw [q2] at this
      exact absurd this (by decide)
  · intro ⟨q1, q2⟩
    rw [q1] at b3
    exact ⟨q2, b3⟩
section
variable {L d : Nat} {z : zS} {bs : List Nat}
/-- what fault's loop holds -/
def RF (bs : List Nat) (T : CT) (f : Nat → Int32) (Al : Nat → List Nat) : Prop := f 1 = nI bs.length ∧ Al 137 = bs ∧ Al 173 = (T.1 10).map (· + 1) ∧ Al 174 = (T.1 10).map (tagN bs) ∧ OpOk bs (T.1 10)
theorem m118_tag {p : Nat} {T : CT} {f : Nat → Int32} {A : Nat → Nat → Int32} {Al : Nat → List Nat} {x5 : Int32} {v6 v7 v8 : Value} (hb : BB bs) (w : WfT p T) (hp : p < bs.length) (hR : RF bs T f Al) :
    ∃ f' A' Al' y6 y7 y8, FrM [48] [173, 174] f A Al f' A' Al' ∧ xruns (O2 L) (zden L (d + 2)) 118 51 [.ref 136, .int (nI (T.1 10).length), .int (nI (T.1 1).length), .int (nI (T.2 11)), .int (nI p), .int x5, v6, v7, v8] [] (ms z f A Al) =
      (if tagB bs p = true ∧ (opT bs p (T.1 10)).1 = true then xruns (O2 L) (zden L (d + 2)) 118 9 [.ref 136, .int (nI (opT bs p (T.1 10)).2.length), .int (nI (T.1 1).length), .int (nI (if isBr bs p = true then 0 else T.2 11)), .int (nI (p + tagL bs p)), .int x5, y6, y7, y8] [] (ms z f' A' Al') else some (nI p, ms z f' A' Al')) ∧ (tagB bs p = true ∧ (opT bs p (T.1 10)).1 = true → RF bs (cTag T (opT bs p (T.1 10)).2 (isBr bs p)) f' Al') := by
  obtain ⟨h1, h2, h3, h4, hok⟩ := hR
  obtain ⟨w1, w2, w3, w4, w6, w7, w5, w8, w9, w9', w10, wo, w11, w12, w13, w14, w15⟩ := w
  have hb2 := hb.2
  have F48 : FrM [48] [173, 174] f A Al (va_up f 48 (nI (fst1 bs p + tagN bs p + 1))) A Al := FrM.f (by simp)
  by_cases e1 : tagB bs p = true
  · obtain ⟨b1, b2, b3, b4⟩ := tagB_at e1
    have hf1 := fst1_le bs p
    obtain ⟨hin, _⟩ := List.getElem?_eq_some_iff.mp b3
    have hL : p + tagL bs p = fst1 bs p + tagN bs p + 1 := by
      unfold tagL
      rw [if_pos e1]
      omega
    obtain ⟨c, hc⟩ : ∃ c, bs[p + 1]? = some c := ⟨_, List.getElem?_eq_getElem (by omega)⟩
    have c256 := hb.at hc
    obtain ⟨c1, hc1⟩ : ∃ c, bs[fst1 bs p]? = some c := ⟨_, List.getElem?_eq_getElem (by omega)⟩
    have c1256 := hb.at hc1
    -- behind the stack's change
    have tail : ∀ (f : Nat → Int32) (A : Nat → Nat → Int32) (Al : Nat → List Nat) (k : Nat) (x6 : Int32), Al 137 = bs → f 48 = nI (fst1 bs p + tagN bs p + 1) → ∃ y6 y7 y8, xruns (O2 L) (zden L (d + 2)) 118 194 [.ref 136, .int (nI k), .int (nI (T.1 1).length), .int (nI (T.2 11)), .int (nI p), .int x5, .int x6, .int (nI (fst1 bs p)), .int (nI (tagN bs p))] [] (ms z f A Al) = xruns (O2 L) (zden L (d + 2)) 118 9 [.ref 136, .int (nI k), .int (nI (T.1 1).length), .int (nI (if isBr bs p = true then 0 else T.2 11)), .int (nI (p + tagL bs p)), .int x5, y6, y7, y8] [] (ms z f A Al) := by
      intro f A Al k x6 h2 h48
      rw [B118_194, iE (by omega) (by omega), hL]
      by_cases e2 : tagN bs p = 1
      · rw [if_pos e2, B118_200, J136_0, Option.bind_some, L137s h2 hb hc1, Option.bind_some, iE (by omega) (by omega)]
        by_cases e3 : c1 = 112
        · rw [if_pos e3, B118_212, B118_214, M48r, Option.bind_some, h48, B118_292, if_pos ((isBr_eq e1).mpr ⟨e2, by rw [hc1, e3]⟩)]
          exact ⟨_, _, _, rfl⟩
        · rw [if_neg e3, B118_214, M48r, Option.bind_some, h48, B118_292, if_neg (fun q => e3 (by have := ((isBr_eq e1).mp q).2; rw [hc1] at this; cases this; rfl))]
          exact ⟨_, _, _, rfl⟩
      · rw [if_neg e2, B118_214, M48r, Option.bind_some, h48, B118_292, if_neg (fun q => e2 ((isBr_eq e1).mp q).1)]
        exact ⟨_, _, _, rfl⟩
    have start : ∀ s : Nat, s ≤ 1 → (s = 1 ↔ c = 47) → xruns (O2 L) (zden L (d + 2)) 118 82 [.ref 136, .int (nI (T.1 10).length), .int (nI (T.1 1).length), .int (nI (T.2 11)), .int (nI p), .int x5, v6, v7, v8] [.int (nI s)] (ms z (va_up f 48 (nI (fst1 bs p + tagN bs p + 1))) A Al) = if s = 0 then xruns (O2 L) (zden L (d + 2)) 118 166 [.ref 136, .int (nI (T.1 10).length), .int (nI (T.1 1).length), .int (nI (T.2 11)), .int (nI p), .int x5, .int (nI s), .int (nI (fst1 bs p)), .int (nI (tagN bs p))] [] (ms z (va_up f 48 (nI (fst1 bs p + tagN bs p + 1))) A Al) else xruns (O2 L) (zden L (d + 2)) 118 118 [.ref 136, .int (nI (T.1 10).length), .int (nI (T.1 1).length), .int (nI (T.2 11)), .int (nI p), .int x5, .int (nI s), .int (nI (fst1 bs p)), .int (nI (tagN bs p))] [] (ms z (va_up f 48 (nI (fst1 bs p + tagN bs p + 1))) A Al) := by
      intro s hs hsc
      have e100 : xruns (O2 L) (zden L (d + 2)) 118 100 [.ref 136, .int (nI (T.1 10).length), .int (nI (T.1 1).length), .int (nI (T.2 11)), .int (nI p), .int x5, .int (nI s), v7, v8] [.int (nI (fst1 bs p))] (ms z (va_up f 48 (nI (fst1 bs p + tagN bs p + 1))) A Al) = if s = 0 then xruns (O2 L) (zden L (d + 2)) 118 166 [.ref 136, .int (nI (T.1 10).length), .int (nI (T.1 1).length), .int (nI (T.2 11)), .int (nI p), .int x5, .int (nI s), .int (nI (fst1 bs p)), .int (nI (tagN bs p))] [] (ms z (va_up f 48 (nI (fst1 bs p + tagN bs p + 1))) A Al) else xruns (O2 L) (zden L (d + 2)) 118 118 [.ref 136, .int (nI (T.1 10).length), .int (nI (T.1 1).length), .int (nI (T.2 11)), .int (nI p), .int x5, .int (nI s), .int (nI (fst1 bs p)), .int (nI (tagN bs p))] [] (ms z (va_up f 48 (nI (fst1 bs p + tagN bs p + 1))) A Al) := by
        rw [B118_100, M48r, Option.bind_some, vs, pk_sub (by omega), pk_sub (by omega), iE (by omega) (by omega), show fst1 bs p + tagN bs p + 1 - 1 - fst1 bs p = tagN bs p by omega]
      rw [B118_82, iE (by omega) (by omega)]
      by_cases es : s = 0
      · have : fst1 bs p = p + 1 := if_neg (by rw [hc]; intro q; cases q; omega)
        rw [if_pos es, B118_96, nI_add, ← this, e100, if_pos es]
      · have : fst1 bs p = p + 2 := if_pos (by rw [hc, hsc.mp (by omega)])
        rw [if_neg es, B118_89, nI_add, ← this, e100, if_neg es]
    have pre : xruns (O2 L) (zden L (d + 2)) 118 51 [.ref 136, .int (nI (T.1 10).length), .int (nI (T.1 1).length), .int (nI (T.2 11)), .int (nI p), .int x5, v6, v7, v8] [] (ms z f A Al) = if c = 47 then xruns (O2 L) (zden L (d + 2)) 118 118 [.ref 136, .int (nI (T.1 10).length), .int (nI (T.1 1).length), .int (nI (T.2 11)), .int (nI p), .int x5, .int (nI 1), .int (nI (fst1 bs p)), .int (nI (tagN bs p))] [] (ms z (va_up f 48 (nI (fst1 bs p + tagN bs p + 1))) A Al) else xruns (O2 L) (zden L (d + 2)) 118 166 [.ref 136, .int (nI (T.1 10).length), .int (nI (T.1 1).length), .int (nI (T.2 11)), .int (nI p), .int x5, .int (nI 0), .int (nI (fst1 bs p)), .int (nI (tagN bs p))] [] (ms z (va_up f 48 (nI (fst1 bs p + tagN bs p + 1))) A Al) := by
      rw [B118_51, m115 h2 h1 hb (by omega), Option.bind_some, iB, if_pos e1, B118_63, J136_0, Option.bind_some, nI_add, L137s h2 hb hc, Option.bind_some, iE (by omega) (by omega)]
      by_cases e : c = 47
      · rw [if_pos e, if_pos e, B118_77, start 1 (by omega) (by simp [e]), if_neg (by omega)]
      · rw [if_neg e, if_neg e, B118_81, start 0 (by omega) (by simp [e]), if_pos rfl]
    rw [pre]
    by_cases e : c = 47
    · -- closes
      rw [if_pos e]
      have e47 : bs[p + 1]? = some 47 := by rw [hc, e]
      have fp : fst1 bs p = p + 2 := if_pos e47
      rw [B118_118, iE (by omega) (by omega)]
      by_cases e0 : (T.1 10).length = 0
      · refine ⟨_, _, _, .null, .null, .null, F48, ?_, ?_⟩
        · rw [if_pos e0, B118_157, if_neg (fun q => by have := q.2; unfold opT at this; rw [if_pos e47, if_pos e0] at this; cases this)]
        · intro q; have := q.2; unfold opT at this; rw [if_pos e47, if_pos e0] at this; cases this
      · have lo_mem : lastO (T.1 10) ∈ T.1 10 := by unfold lastO; rw [gD (by omega)]; exact List.getElem_mem _
        obtain ⟨lo1, lo2⟩ := hok _ lo_mem
        obtain ⟨l1, l2, l3, l4⟩ := tagB_at lo1
        have flo : fst1 bs (lastO (T.1 10)) = lastO (T.1 10) + 1 := if_neg lo2
        rw [flo] at l3
        obtain ⟨lin, _⟩ := List.getElem?_eq_some_iff.mp l3
        have g174 : ((T.1 10).map (tagN bs)).getD ((T.1 10).length - 1) 0 = tagN bs (lastO (T.1 10)) := by
          unfold lastO
          rw [gD (by simp; omega), gD (by omega), List.getElem_map]
        have g173 : ((T.1 10).map (· + 1)).getD ((T.1 10).length - 1) 0 = lastO (T.1 10) + 1 := by
          unfold lastO
          rw [gD (by simp; omega), gD (by omega), List.getElem_map]
        have se := same_eq lo1 lo2 e1 e47
        have step : xruns (O2 L) (zden L (d + 2)) 118 122 [.ref 136, .int (nI (T.1 10).length), .int (nI (T.1 1).length), .int (nI (T.2 11)), .int (nI p), .int x5, .int (nI 1), .int (nI (fst1 bs p)), .int (nI (tagN bs p))] [] (ms z (va_up f 48 (nI (fst1 bs p + tagN bs p + 1))) A Al) = if sameL bs (lastO (T.1 10)) p 9 0 = true then xruns (O2 L) (zden L (d + 2)) 118 160 [.ref 136, .int (nI (T.1 10).length), .int (nI (T.1 1).length), .int (nI (T.2 11)), .int (nI p), .int x5, .int (nI 1), .int (nI (fst1 bs p)), .int (nI (tagN bs p))] [] (ms z (va_up f 48 (nI (fst1 bs p + tagN bs p + 1))) A Al) else some (nI p, ms z (va_up f 48 (nI (fst1 bs p + tagN bs p + 1))) A Al) := by
          rw [B118_122, J136_50, Option.bind_some, pk_sub (by omega), L174 (by rw [h4, List.length_map]; omega) (by omega), Option.bind_some, h4, g174, iE (by omega) (by omega), se]
          by_cases e3 : tagN bs (lastO (T.1 10)) = tagN bs p
          · rw [if_pos e3, B118_135, J136_0, Option.bind_some, J136_49, Option.bind_some, pk_sub (by omega), L173 (by rw [h3, List.length_map]; omega) (by omega), Option.bind_some, h3, g173, m116 h2 hb (by omega) (by omega), Option.bind_some, iB, fp, decide_eq_true e3, Bool.true_and, B118_157]
          · rw [if_neg e3, B118_157, decide_eq_false e3, Bool.false_and, if_neg (by decide)]
        rw [if_neg e0, step]
        by_cases e4 : sameL bs (lastO (T.1 10)) p 9 0 = true
        · have eo : opT bs p (T.1 10) = (true, (T.1 10).take ((T.1 10).length - 1)) := by
            unfold opT
            rw [if_pos e47, if_neg e0, if_pos e4]
          obtain ⟨A1, j1, j1'⟩ := ms_trunc (z := z) (f := va_up f 48 (nI (fst1 bs p + tagN bs p + 1))) (A := A) (Al := Al) 173 ((T.1 10).length - 1)
          obtain ⟨A2, j2, j2'⟩ := ms_trunc (z := z) (f := va_up f 48 (nI (fst1 bs p + tagN bs p + 1))) (A := A1) (Al := va_up Al 173 ((Al 173).take ((T.1 10).length - 1))) 174 ((T.1 10).length - 1)
          obtain ⟨y6, y7, y8, et⟩ := tail (va_up f 48 (nI (fst1 bs p + tagN bs p + 1))) A2 (va_up (va_up Al 173 ((Al 173).take ((T.1 10).length - 1))) 174 ((va_up Al 173 ((Al 173).take ((T.1 10).length - 1)) 174).take ((T.1 10).length - 1))) ((T.1 10).length - 1) (nI 1) h2 (vs _ _ _)
          refine ⟨va_up f 48 (nI (fst1 bs p + tagN bs p + 1)), A2, va_up (va_up Al 173 ((Al 173).take ((T.1 10).length - 1))) 174 ((va_up Al 173 ((Al 173).take ((T.1 10).length - 1)) 174).take ((T.1 10).length - 1)), y6, y7, y8, ?_, ?_, ?_⟩
          rotate_left
          · rw [if_pos e4, B118_160, nI_m1 (by omega), j1, j2, et, if_pos (show tagB bs p = true ∧ (opT bs p (T.1 10)).1 = true from ⟨e1, by rw [eo]⟩), eo]
            simp only [List.length_take]
            rw [show min ((T.1 10).length - 1) (T.1 10).length = (T.1 10).length - 1 by omega]
          · intro _
            rw [eo]
            refine ⟨by rw [vn _ _ (by omega)]; exact h1, h2, ?_, ?_, ?_⟩
            · show (Al 173).take _ = ((T.1 10).take _).map _
              rw [h3, List.map_take]
            · show (Al 174).take _ = ((T.1 10).take _).map _
              rw [h4, List.map_take]
            · exact fun o q => hok o (List.mem_of_mem_take q)
          · exact ((F48.trans (FrM.j j1')).trans (FrM.a (by simp))).trans ((FrM.j j2').trans (FrM.a (by simp)))
        · have eo : opT bs p (T.1 10) = (false, T.1 10) := by
            unfold opT
            rw [if_pos e47, if_neg e0, if_neg e4]
          refine ⟨_, _, _, .null, .null, .null, F48, ?_, ?_⟩
          · rw [if_neg e4, eo, if_neg (fun q => by cases q.2)]
          · intro q; rw [eo] at q; cases q.2
    · -- opens
      rw [if_neg e]
      have e47 : ¬ bs[p + 1]? = some 47 := by rw [hc]; intro q; cases q; exact e rfl
      have fp : fst1 bs p = p + 1 := if_neg e47
      rw [B118_166, iE (by omega) (by omega)]
      by_cases e8 : (T.1 10).length = 8
      · have eo : opT bs p (T.1 10) = (false, T.1 10) := by
          unfold opT
          rw [if_neg e47, if_neg (by omega)]
        refine ⟨_, _, _, .null, .null, .null, F48, ?_, ?_⟩
        · rw [if_pos e8, B118_172, eo, if_neg (fun q => by cases q.2)]
        · intro q; rw [eo] at q; cases q.2
      · have eo : opT bs p (T.1 10) = (true, T.1 10 ++ [p]) := by
          unfold opT
          rw [if_neg e47, if_pos (by omega)]
        obtain ⟨y6, y7, y8, et⟩ := tail (va_up f 48 (nI (fst1 bs p + tagN bs p + 1))) A (va_up (va_up Al 173 (Al 173 ++ [fst1 bs p])) 174 (Al 174 ++ [tagN bs p])) ((T.1 10).length + 1) (nI 0) h2 (vs _ _ _)
        refine ⟨va_up f 48 (nI (fst1 bs p + tagN bs p + 1)), A, va_up (va_up Al 173 (Al 173 ++ [fst1 bs p])) 174 (Al 174 ++ [tagN bs p]), y6, y7, y8, ?_, ?_, ?_⟩
        rotate_left
        · rw [if_neg e8, B118_175, J136_49, Option.bind_some, A173 _ (by rw [h3, List.length_map]) (by omega), Option.bind_some, J136_50, Option.bind_some, A174 _ (by rw [vn _ _ (by omega), h4, List.length_map]) (by omega), Option.bind_some, nI_add, vn _ _ (by omega), et, if_pos (show tagB bs p = true ∧ (opT bs p (T.1 10)).1 = true from ⟨e1, by rw [eo]⟩), eo]
          simp only [List.length_append, List.length_cons, List.length_nil]
        · intro _
          rw [eo]
          refine ⟨by rw [vn _ _ (by omega)]; exact h1, h2, ?_, ?_, ?_⟩
          · show Al 173 ++ _ = (T.1 10 ++ [p]).map _
            rw [h3, List.map_append, fp]; rfl
          · show Al 174 ++ _ = (T.1 10 ++ [p]).map _
            rw [h4, List.map_append]; rfl
          · intro o q
            rcases List.mem_append.mp q with q | q
            · exact hok o q
            · rw [List.mem_singleton.mp q]; exact ⟨e1, e47⟩
        · exact (F48.trans (FrM.a (by simp))).trans (FrM.a (by simp))
  · refine ⟨_, _, _, .null, .null, .null, F48, ?_, ?_⟩
    · rw [B118_51, m115 h2 h1 hb (by omega), Option.bind_some, iB, if_neg e1, B118_60, if_neg (fun q => e1 q.1)]
    · exact fun q => absurd q.1 e1
end
