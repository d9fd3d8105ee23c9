/-! THE REFERENCE'S QUERY: blanks, terms, phrases -/
theorem vv {α : Type} (f : Nat → α) (k : Nat) (a b : α) : va_up (va_up f k a) k b = va_up f k b := by
  funext i
  unfold va_up
  split <;> rfl
theorem lo_k {c k : Nat} (h1 : isSm k = false) (h2 : isUp k = false) : lo c = k ↔ c = k := by
  unfold lo
  by_cases h : isUp c = true
  · rw [if_pos h]
    constructor
    · intro q
      exfalso
      have hu : isUp c = (decide (65 ≤ c) && decide (c ≤ 90)) := rfl
      rw [hu] at h
      simp at h
      have : isSm k = true := by simp [isSm]; omega
      rw [this] at h1; cases h1
    · intro q
      rw [q, h2] at h; cases h
  · rw [if_neg h]
theorem isWd_lo2 (c : Nat) : isWd (lo c) = isWd c := by
  have e : lo (lo c) = lo c := by
    have hu : ∀ c, isUp c = (decide (65 ≤ c) && decide (c ≤ 90)) := fun _ => rfl
    unfold lo
    by_cases h : isUp c = true
    · rw [if_pos h, if_neg]
      rw [hu] at h ⊢
      simp at h ⊢
      omega
    · rw [if_neg h, if_neg h]
  have f : isFg (lo c) = isFg c := by
    unfold lo
    by_cases h : isUp c = true
    · rw [if_pos h]
      have hu : isUp c = (decide (65 ≤ c) && decide (c ≤ 90)) := rfl
      rw [hu] at h
      simp at h
      have q1 : isFg c = false := by simp [isFg]; omega
      have q2 : isFg (c + 32) = false := by simp [isFg]; omega
      rw [q1, q2]
    · rw [if_neg h]
  rw [isWd_lo (lo c), isWd_lo c, e, f]
theorem isFg_lo (c : Nat) : isFg (lo c) = isFg c := by
  unfold lo
  by_cases h : isUp c = true
  · rw [if_pos h]
    have hu : isUp c = (decide (65 ≤ c) && decide (c ≤ 90)) := rfl
    rw [hu] at h
    simp at h
    have q1 : isFg c = false := by simp [isFg]; omega
    have q2 : isFg (c + 32) = false := by simp [isFg]; omega
    rw [q1, q2]
  · rw [if_neg h]
theorem qat {bs : List Nat} {p k : Nat} (h1 : isSm k = false) (h2 : isUp k = false) : (bs.map lo)[p]? = some k ↔ bs[p]? = some k := by
  rw [List.getElem?_map]
  cases bs[p]? with
  | none => simp
  | some c =>
    simp only [Option.map_some, Option.some.injEq]
    exact lo_k h1 h2
theorem qwd {bs : List Nat} {p : Nat} : (bs.map lo)[p]?.any isWd = bs[p]?.any isWd := by
  rw [List.getElem?_map]
  cases bs[p]? with
  | none => rfl
  | some c => exact isWd_lo2 c
theorem qfg {bs : List Nat} {p : Nat} : (bs.map lo)[p]?.any isFg = bs[p]?.any isFg := by
  rw [List.getElem?_map]
  cases bs[p]? with
  | none => rfl
  | some c => exact isFg_lo c
theorem brun_lo {bs : List Nat} : ∀ (r k : Nat), bs.length ≤ k + r → brun (bs.map lo) k = brun bs k := by
  intro r
  induction r with
  | zero =>
    intro k h
    rw [brun_0 (by rw [List.getElem?_eq_none (by rw [List.length_map]; omega)]; exact fun q => by cases q), brun_0 (by rw [List.getElem?_eq_none (by omega)]; exact fun q => by cases q)]
  | succ r ih =>
    intro k h
    by_cases q : bs[k]? = some 32
    · rw [brun_s q, brun_s ((qat rfl rfl).mpr q), ih (k + 1) (by omega)]
    · rw [brun_0 q, brun_0 (fun e => q ((qat rfl rfl).mp e))]
/-- what the reference's query reader holds of terms -/
def RQ (bs : List Nat) (Q : CT) (f : Nat → Int32) (Al : Nat → List Nat) : Prop := f 1 = nI bs.length ∧ Al 137 = bs ∧ f 67 = nI (Q.2 10) ∧ f 55 = nI (Q.1 1).length ∧ Al 178 = Q.1 1 ∧ Al 179 = Q.1 2 ∧ Al 180 = Q.1 3 ∧ f 68 = -1
theorem RQ.at {bs : List Nat} {Q : CT} {f : Nat → Int32} {Al : Nat → List Nat} (h : RQ bs Q f Al) (p : Nat) : RQ bs (qAt Q p) (va_up f 67 (nI p)) Al := by
  obtain ⟨h1, h2, h3, h4, h5, h6, h7, h8⟩ := h
  refine ⟨?_, h2, ?_, ?_, h5, h6, h7, ?_⟩
  · rw [vn _ _ (by omega), h1]
  · rw [vs, qAt_10]
  · rw [vn _ _ (by omega), h4]; rfl
  · rw [vn _ _ (by omega), h8]
section
variable {L d : Nat} {z : zS} {A : Nat → Nat → Int32} {bs : List Nat}
theorem m123 {f : Nat → Int32} {Al : Nat → List Nat} {p : Nat} (h1 : f 1 = nI bs.length) (h2 : Al 137 = bs) (h3 : f 67 = nI p) (hb : BB bs) (hp : p ≤ bs.length) : zden L (d + 1) 123 [.ref 136] (ms z f A Al) = some (oz bs[p]?, ms z f A Al) := by
  have hb2 := hb.2
  rw [N123 _ ob136, B123_0, M67r, Option.bind_some, M1r, Option.bind_some, h1, h3, iL (by omega) (by omega)]
  by_cases e : bs.length ≤ p
  · rw [if_pos e, B123_23, B123_24, List.getElem?_eq_none e]; rfl
  · have hlt : p < bs.length := by omega
    rw [if_neg e, B123_11, J136_0, Option.bind_some, M67r, Option.bind_some, h3, L137s h2 hb (List.getElem?_eq_getElem hlt), Option.bind_some, B123_24, List.getElem?_eq_getElem hlt]; rfl
theorem m124 {Al : Nat → List Nat} (h2 : Al 137 = bs) (hb : BB bs) : ∀ (r : Nat) (f : Nat → Int32) (p : Nat), f 1 = nI bs.length → f 67 = nI p → p + r = bs.length → zden L (d + 2) 124 [.ref 136] (ms z f A Al) = some (0, ms z (va_up f 67 (nI (p + brun bs p))) A Al) := by
  have key : ∀ (r : Nat) (f : Nat → Int32) (p : Nat), f 1 = nI bs.length → f 67 = nI p → p + r = bs.length → xruns (O2 L) (zden L (d + 1)) 124 0 [.ref 136] [] (ms z f A Al) = some (0, ms z (va_up f 67 (nI (p + brun bs p))) A Al) := by
    intro r
    induction r with
    | zero =>
      intro f p h1 h3 hp
      have e : bs[p]? = none := List.getElem?_eq_none (by omega)
      rw [B124_0, m123 h1 h2 h3 hb (by omega), Option.bind_some, iZ hb (by omega), if_neg (by rw [e]; exact fun q => by cases q), B124_22, brun_0 (by rw [e]; exact fun q => by cases q), Nat.add_zero, ← h3, vi]
    | succ r ih =>
      intro f p h1 h3 hp
      rw [B124_0, m123 h1 h2 h3 hb (by omega), Option.bind_some, iZ hb (by omega)]
      by_cases e : bs[p]? = some 32
      · rw [if_pos e, B124_9, M67r, Option.bind_some, h3, nI_add, M67p, Option.bind_some, ih (va_up f 67 (nI (p + 1))) (p + 1) (by rw [vn _ _ (by omega), h1]) (vs _ _ _) (by omega), vv, brun_s e, show p + 1 + brun bs (p + 1) = p + (brun bs (p + 1) + 1) by omega]
      · rw [if_neg e, B124_22, brun_0 e, Nat.add_zero, ← h3, vi]
  intro r f p h1 h3 hp
  rw [N124 _ ob136]
  exact key r f p h1 h3 hp
/-- blanks, told of the query -/
theorem m124q {Q : CT} {f : Nat → Int32} {Al : Nat → List Nat} (h : RQ bs Q f Al) (hb : BB bs) (hp : Q.2 10 ≤ bs.length) : zden L (d + 2) 124 [.ref 136] (ms z f A Al) = some (0, ms z (va_up f 67 (nI ((qSkip (bs.map lo) Q).2 10))) A Al) ∧ RQ bs (qSkip (bs.map lo) Q) (va_up f 67 (nI ((qSkip (bs.map lo) Q).2 10))) Al := by
  have e : (qSkip (bs.map lo) Q).2 10 = Q.2 10 + brun bs (Q.2 10) := by
    unfold qSkip
    rw [qAt_10, brun_lo bs.length (Q.2 10) (by omega)]
  refine ⟨?_, ?_⟩
  · rw [e]
    exact m124 h.2.1 hb (bs.length - Q.2 10) f (Q.2 10) h.1 h.2.2.1 (by omega)
  · have := h.at ((qSkip (bs.map lo) Q).2 10)
    have e2 : qAt Q ((qSkip (bs.map lo) Q).2 10) = qSkip (bs.map lo) Q := by
      rw [e, ← brun_lo bs.length (Q.2 10) (by omega)]; rfl
    rw [e2] at this
    exact this
theorem m129_loop {Al : Nat → List Nat} {p : Nat} (h2 : Al 137 = bs) (hb : BB bs) (hp : p ≤ bs.length) : ∀ (r n : Nat) (f : Nat → Int32), n + r = 20 → n ≤ wrun (bs.map lo) p → f 1 = nI bs.length → f 67 = nI (p + n) → xruns (O2 L) (zden L (d + 3)) 129 15 [.ref 136, .int (nI n)] [] (ms z f A Al) = if 20 < wrun (bs.map lo) p then some (0, ms z (va_up (va_up f 67 (nI (p + 20))) 68 (nI (p + 20))) A Al) else xruns (O2 L) (zden L (d + 3)) 129 56 [.ref 136, .int (nI (wrun (bs.map lo) p))] [] (ms z (va_up f 67 (nI (p + wrun (bs.map lo) p))) A Al) := by
  have hin := wrun_in (bs.map lo) p
  rw [List.length_map] at hin
  intro r
  induction r with
  | zero =>
    intro n f hn hw h1 h3
    have n20 : n = 20 := by omega
    subst n20
    rw [B129_15, m123 h1 h2 h3 hb (by omega), Option.bind_some, m112 (fun k => hb.at), Option.bind_some, iB]
    by_cases e : 20 < wrun (bs.map lo) p
    · have := wrun_lt e
      rw [qwd] at this
      rw [if_pos this, if_pos e, B129_25, iE (by omega) (by omega), if_pos rfl, B129_31, M67r, Option.bind_some, h3, M68p, Option.bind_some, ← h3, vi]
    · have w20 : wrun (bs.map lo) p = 20 := by omega
      have := wrun_end (bs.map lo) p
      rw [qwd, w20] at this
      rw [if_neg (by rw [this]; decide), if_neg e, w20, ← h3, vi]
  | succ r ih =>
    intro n f hn hw h1 h3
    rw [B129_15, m123 h1 h2 h3 hb (by omega), Option.bind_some, m112 (fun k => hb.at), Option.bind_some, iB]
    by_cases e : n < wrun (bs.map lo) p
    · have := wrun_lt e
      rw [qwd] at this
      rw [if_pos this, B129_25, iE (by omega) (by omega), if_neg (by omega), B129_40, M67r, Option.bind_some, h3, nI_add, M67p, Option.bind_some, nI_add, ih (n + 1) _ (by omega) (by omega) (by rw [vn _ _ (by omega), h1]) (by rw [vs]; rfl), vv, vv]
    · have we : wrun (bs.map lo) p = n := by omega
      have := wrun_end (bs.map lo) p
      rw [qwd, we] at this
      rw [if_neg (by rw [this]; decide), if_neg (by omega), we, ← h3, vi]
theorem m129 {Q : CT} {f : Nat → Int32} {Al : Nat → List Nat} (h : RQ bs Q f Al) (hb : BB bs) (ok : qOk (bs.map lo) Q) (hw : 1 ≤ wrun (bs.map lo) (Q.2 10)) (l1 : (Q.1 1).length < 80) :
    ∃ f' Al', FrM [55, 67, 68] [178, 179, 180] f A Al f' A Al' ∧ zden L (d + 4) 129 [.ref 136] (ms z f A Al) = some (0, ms z f' A Al') ∧ ((qTerm (bs.map lo) Q).1 = true → RQ bs (qTerm (bs.map lo) Q).2 f' Al') ∧ ((qTerm (bs.map lo) Q).1 = false → f' 68 = nI ((qTerm (bs.map lo) Q).2.2 10)) := by
  obtain ⟨h1, h2, h3, h4, h5, h6, h7, h8⟩ := h
  obtain ⟨o1, o2, o3, o4⟩ := ok
  have hb2 := hb.2
  rw [List.length_map] at o2
  have hin := wrun_in (bs.map lo) (Q.2 10)
  rw [List.length_map] at hin
  have e0 : zden L (d + 4) 129 [.ref 136] (ms z f A Al) = xruns (O2 L) (zden L (d + 3)) 129 15 [.ref 136, .int (nI 0)] [] (ms z f A (va_up Al 178 (Q.1 1 ++ [Q.2 10]))) := by
    rw [N129 _ ob136, B129_0, J136_56, Option.bind_some, M55r, Option.bind_some, M67r, Option.bind_some, h4, h3, A178 _ (by rw [h5]) (by omega), Option.bind_some, h5]
  have e1 := m129_loop (L := L) (d := d) (z := z) (A := A) (Al := va_up Al 178 (Q.1 1 ++ [Q.2 10])) (bs := bs) (p := Q.2 10) (by rw [vn _ _ (by omega), h2]) hb (by omega) 20 0 f (by omega) (by omega) h1 h3
  by_cases e20 : 20 < wrun (bs.map lo) (Q.2 10)
  · have eT : qTerm (bs.map lo) Q = (false, qAt Q (Q.2 10 + 20)) := by
      unfold qTerm
      rw [if_neg (by omega), if_pos e20]
    refine ⟨va_up (va_up f 67 (nI (Q.2 10 + 20))) 68 (nI (Q.2 10 + 20)), va_up Al 178 (Q.1 1 ++ [Q.2 10]), ?_, ?_, ?_, ?_⟩
    · exact ((FrM.f (by simp)).trans (FrM.f (by simp))).trans (FrM.a (by simp))
    · rw [e0, e1, if_pos e20]
    · rw [eT]; intro q; cases q
    · rw [eT]; intro _; rw [vs, qAt_10]
  · have eT : qTerm (bs.map lo) Q = (true, (va_up (va_up (va_up Q.1 1 (Q.1 1 ++ [Q.2 10])) 2 (Q.1 2 ++ [wrun (bs.map lo) (Q.2 10)])) 3 (Q.1 3 ++ [qKind (bs.map lo) (Q.2 10 + wrun (bs.map lo) (Q.2 10))]), va_up Q.2 10 (Q.2 10 + wrun (bs.map lo) (Q.2 10) + (if qKind (bs.map lo) (Q.2 10 + wrun (bs.map lo) (Q.2 10)) = 0 then 0 else 1)))) := by
      unfold qTerm
      rw [if_neg (by omega), if_neg e20]
    rw [eT]
    rw [if_neg e20] at e1
    generalize wrun (bs.map lo) (Q.2 10) = W at *
    have i1 : va_up f 67 (nI (Q.2 10 + W)) 1 = nI bs.length := by rw [vn _ _ (by omega), h1]
    have i55 : va_up f 67 (nI (Q.2 10 + W)) 55 = nI (Q.1 1).length := by rw [vn _ _ (by omega), h4]
    -- the end, with the kind k
    have fin : ∀ (f1 : Nat → Int32) (k x : Nat), f1 1 = nI bs.length → f1 68 = -1 → f1 55 = nI (Q.1 1).length → f1 67 = nI x → FrM [55, 67, 68] [178, 179, 180] f A Al f1 A (va_up (va_up (va_up Al 178 (Q.1 1 ++ [Q.2 10])) 179 (Q.1 2 ++ [W])) 180 (Q.1 3 ++ [k])) →
        FrM [55, 67, 68] [178, 179, 180] f A Al (va_up f1 55 (nI ((Q.1 1).length + 1))) A (va_up (va_up (va_up Al 178 (Q.1 1 ++ [Q.2 10])) 179 (Q.1 2 ++ [W])) 180 (Q.1 3 ++ [k])) ∧ xruns (O2 L) (zden L (d + 3)) 129 127 [.ref 136, .int (nI W)] [] (ms z f1 A (va_up (va_up (va_up Al 178 (Q.1 1 ++ [Q.2 10])) 179 (Q.1 2 ++ [W])) 180 (Q.1 3 ++ [k]))) = some (0, ms z (va_up f1 55 (nI ((Q.1 1).length + 1))) A (va_up (va_up (va_up Al 178 (Q.1 1 ++ [Q.2 10])) 179 (Q.1 2 ++ [W])) 180 (Q.1 3 ++ [k]))) ∧ RQ bs (va_up (va_up (va_up Q.1 1 (Q.1 1 ++ [Q.2 10])) 2 (Q.1 2 ++ [W])) 3 (Q.1 3 ++ [k]), va_up Q.2 10 x) (va_up f1 55 (nI ((Q.1 1).length + 1))) (va_up (va_up (va_up Al 178 (Q.1 1 ++ [Q.2 10])) 179 (Q.1 2 ++ [W])) 180 (Q.1 3 ++ [k])) := by
      intro f1 k x g1 g68 g55 g67 fr
      refine ⟨fr.trans (FrM.f (by simp)), ?_, ?_⟩
      · rw [B129_127, M55r, Option.bind_some, g55, nI_add, M55p, Option.bind_some]
      · refine ⟨?_, ?_, ?_, ?_, ?_, ?_, ?_, ?_⟩
        · rw [vn _ _ (by omega), g1]
        · simp (disch := omega) only [vn]; exact h2
        · simp (disch := omega) only [vn, vs]; exact g67
        · show va_up f1 55 (nI ((Q.1 1).length + 1)) 55 = nI (Q.1 1 ++ [Q.2 10]).length
          rw [vs, List.length_append]; rfl
        · simp (disch := omega) only [vn, vs]
        · simp (disch := omega) only [vn, vs]
        · simp (disch := omega) only [vs]
        · rw [vn _ _ (by omega), g68]
    have fr0 : ∀ k, FrM [55, 67, 68] [178, 179, 180] f A Al (va_up f 67 (nI (Q.2 10 + W))) A (va_up (va_up (va_up Al 178 (Q.1 1 ++ [Q.2 10])) 179 (Q.1 2 ++ [W])) 180 (Q.1 3 ++ [k])) := fun k => (((FrM.f (by simp)).trans (FrM.a (by simp))).trans (FrM.a (by simp))).trans (FrM.a (by simp))
    have i68 : va_up f 67 (nI (Q.2 10 + W)) 68 = -1 := by rw [vn _ _ (by omega), h8]
    have p3 : ∀ k, va_up (va_up (va_up Al 178 (Q.1 1 ++ [Q.2 10])) 179 (Q.1 2 ++ [W])) 180 (Q.1 3 ++ [k]) 137 = bs := fun k => by simp (disch := omega) only [vn]; exact h2
    have pk : ∀ k, zden L (d + 3) 123 [.ref 136] (ms z (va_up f 67 (nI (Q.2 10 + W))) A (va_up (va_up (va_up Al 178 (Q.1 1 ++ [Q.2 10])) 179 (Q.1 2 ++ [W])) 180 (Q.1 3 ++ [k]))) = some (oz bs[Q.2 10 + W]?, ms z (va_up f 67 (nI (Q.2 10 + W))) A (va_up (va_up (va_up Al 178 (Q.1 1 ++ [Q.2 10])) 179 (Q.1 2 ++ [W])) 180 (Q.1 3 ++ [k]))) := fun k => m123 i1 (p3 k) (vs _ _ _) hb (by omega)
    have e56 : xruns (O2 L) (zden L (d + 3)) 129 56 [.ref 136, .int (nI W)] [] (ms z (va_up f 67 (nI (Q.2 10 + W))) A (va_up Al 178 (Q.1 1 ++ [Q.2 10]))) = if bs[Q.2 10 + W]? = some 42 then xruns (O2 L) (zden L (d + 3)) 129 94 [.ref 136, .int (nI W)] [] (ms z (va_up f 67 (nI (Q.2 10 + W))) A (va_up (va_up (va_up Al 178 (Q.1 1 ++ [Q.2 10])) 179 (Q.1 2 ++ [W])) 180 (Q.1 3 ++ [0]))) else xruns (O2 L) (zden L (d + 3)) 129 85 [.ref 136, .int (nI W)] [] (ms z (va_up f 67 (nI (Q.2 10 + W))) A (va_up (va_up (va_up Al 178 (Q.1 1 ++ [Q.2 10])) 179 (Q.1 2 ++ [W])) 180 (Q.1 3 ++ [0]))) := by
      rw [B129_56, J136_57, Option.bind_some, M55r, Option.bind_some, i55, A179 _ (by rw [vn _ _ (by omega), h6, o3]) (by omega), Option.bind_some, J136_58, Option.bind_some, M55r, Option.bind_some, i55, A180 _ (by simp (disch := omega) only [vn]; rw [h7, o4]) (by omega), Option.bind_some, vn Al _ (show 179 ≠ 178 by omega), h6, vn _ _ (show 180 ≠ 179 by omega), vn Al _ (show 180 ≠ 178 by omega), h7, pk 0, Option.bind_some, iZ hb (by omega)]
    have e94 : ∀ k, (if bs[Q.2 10 + W]? = some 42 then k = 1 else k = 2) → xruns (O2 L) (zden L (d + 3)) 129 94 [.ref 136, .int (nI W)] [] (ms z (va_up f 67 (nI (Q.2 10 + W))) A (va_up (va_up (va_up Al 178 (Q.1 1 ++ [Q.2 10])) 179 (Q.1 2 ++ [W])) 180 (Q.1 3 ++ [0]))) = xruns (O2 L) (zden L (d + 3)) 129 127 [.ref 136, .int (nI W)] [] (ms z (va_up f 67 (nI (Q.2 10 + W + 1))) A (va_up (va_up (va_up Al 178 (Q.1 1 ++ [Q.2 10])) 179 (Q.1 2 ++ [W])) 180 (Q.1 3 ++ [k]))) := by
      intro k hk
      have e116 : ∀ k, xruns (O2 L) (zden L (d + 3)) 129 116 [.ref 136, .int (nI W)] [.int (nI k), .int (nI (Q.1 1).length), .ref 180] (ms z (va_up f 67 (nI (Q.2 10 + W))) A (va_up (va_up (va_up Al 178 (Q.1 1 ++ [Q.2 10])) 179 (Q.1 2 ++ [W])) 180 (Q.1 3 ++ [0]))) = xruns (O2 L) (zden L (d + 3)) 129 127 [.ref 136, .int (nI W)] [] (ms z (va_up f 67 (nI (Q.2 10 + W + 1))) A (va_up (va_up (va_up Al 178 (Q.1 1 ++ [Q.2 10])) 179 (Q.1 2 ++ [W])) 180 (Q.1 3 ++ [k]))) := by
        intro k
        have ls : (Q.1 3 ++ [0]).set (Q.1 1).length k = Q.1 3 ++ [k] := by rw [← o4]; simp
        rw [B129_116, U180 k (by rw [vs, List.length_append, o4]; simp) (by omega), Option.bind_some, M67r, Option.bind_some, vs, vs, nI_add, M67p, Option.bind_some, vv, vv, ls]
      rw [B129_94, J136_58, Option.bind_some, M55r, Option.bind_some, i55, pk 0, Option.bind_some, iZ hb (by omega)]
      by_cases q : bs[Q.2 10 + W]? = some 42
      · rw [if_pos q] at hk ⊢
        rw [B129_111, hk]; exact e116 1
      · rw [if_neg q] at hk ⊢
        rw [B129_115, hk]; exact e116 2
    unfold qKind
    by_cases q1 : bs[Q.2 10 + W]? = some 42
    · have q1' : (bs.map lo)[Q.2 10 + W]? = some 42 := (qat rfl rfl).mpr q1
      simp only [if_pos q1']
      obtain ⟨x1, x2, x3⟩ := fin (va_up f 67 (nI (Q.2 10 + W + 1))) 1 (Q.2 10 + W + 1) (by rw [vn _ _ (by omega), h1]) (by rw [vn _ _ (by omega), h8]) (by rw [vn _ _ (by omega), h4]) (vs _ _ _) ((((FrM.f (by simp)).trans (FrM.a (by simp))).trans (FrM.a (by simp))).trans (FrM.a (by simp)))
      exact ⟨_, _, x1, by rw [e0, e1, e56, if_pos q1, e94 1 (by rw [if_pos q1])]; exact x2, fun _ => x3, fun q => by cases q⟩
    · have q1' : ¬ (bs.map lo)[Q.2 10 + W]? = some 42 := fun e => q1 ((qat rfl rfl).mp e)
      simp only [if_neg q1']
      by_cases q2 : bs[Q.2 10 + W]? = some 126
      · have q2' : (bs.map lo)[Q.2 10 + W]? = some 126 := (qat rfl rfl).mpr q2
        simp only [if_pos q2']
        obtain ⟨x1, x2, x3⟩ := fin (va_up f 67 (nI (Q.2 10 + W + 1))) 2 (Q.2 10 + W + 1) (by rw [vn _ _ (by omega), h1]) (by rw [vn _ _ (by omega), h8]) (by rw [vn _ _ (by omega), h4]) (vs _ _ _) ((((FrM.f (by simp)).trans (FrM.a (by simp))).trans (FrM.a (by simp))).trans (FrM.a (by simp)))
        exact ⟨_, _, x1, by rw [e0, e1, e56, if_neg q1, B129_85, pk 0, Option.bind_some, iZ hb (by omega), if_pos q2, e94 2 (by rw [if_neg q1])]; exact x2, fun _ => x3, fun q => by cases q⟩
      · have q2' : ¬ (bs.map lo)[Q.2 10 + W]? = some 126 := fun e => q2 ((qat rfl rfl).mp e)
        simp only [if_neg q2']
        obtain ⟨x1, x2, x3⟩ := fin (va_up f 67 (nI (Q.2 10 + W))) 0 (Q.2 10 + W) i1 i68 i55 (vs _ _ _) (fr0 0)
        exact ⟨_, _, x1, by rw [e0, e1, e56, if_neg q1, B129_85, pk 0, Option.bind_some, iZ hb (by omega), if_neg q2]; exact x2, fun _ => x3, fun q => by cases q⟩
end
