/-! EVALUATION: ways, in the reference -/
def MX (T Q : CT) (lk n : Nat) (f : Nat → Int32) (Al : Nat → List Nat) : Prop := MTX T f Al ∧ MQX Q f Al ∧ f 36 = nI n ∧ n ≤ 300 ∧ lk = min n (T.1 1).length ∧ TL T ∧ QL Q ∧ (∀ w, w < (T.1 1).length → TW T w) ∧ (∀ l, l < (Q.1 6).length → QF Q l) ∧ (Q.1 6).length ≤ 12 ∧ (∀ w, w + 1 < (T.1 1).length → plT T w + 1 ≤ plT T (w + 1)) ∧ (∀ v, v < (T.1 1).length → plT T v ≤ 10000)
theorem MX.fr {T Q : CT} {lk n : Nat} {f f' : Nat → Int32} {J J' : Nat → Nat → Int32} {Al Al' : Nat → List Nat} (h : MX T Q lk n f Al) (r : FrM [43, 47] [162, 163, 164, 165, 166, 167, 168, 169, 170, 171, 172, 186, 187, 188, 189] f J Al f' J' Al') : MX T Q lk n f' Al' := by
  obtain ⟨⟨a1, a2, a3, a4⟩, ⟨b1, b2, b3, b4, b5, b6, b7, b8⟩, h3, h4⟩ := h
  obtain ⟨r0, r1, r2⟩ := r
  have e139 := r2 139 (by simp)
  have e147 := r2 147 (by simp)
  have e148 := r2 148 (by simp)
  have e149 := r2 149 (by simp)
  refine ⟨⟨by rw [r1 14 (by simp), a1], a2, by rw [e139]; exact a3, by rw [e139, e147, e148, e149]; exact a4⟩, ⟨by rw [r1 21 (by simp), b1], by rw [r2 152 (by simp), b2], by rw [r2 153 (by simp), b3], by rw [r2 154 (by simp), b4], by rw [r2 155 (by simp), b5], by rw [r2 156 (by simp), b6], by rw [r2 157 (by simp), b7], by rw [r2 158 (by simp), b8]⟩, by rw [r1 36 (by simp), h3], h4⟩
theorem pl_mono {T : CT} (hm : ∀ w, w + 1 < (T.1 1).length → plT T w + 1 ≤ plT T (w + 1)) {w : Nat} : ∀ r, w + r < (T.1 1).length → plT T w + r ≤ plT T (w + r) := by
  intro r
  induction r with
  | zero => intro _; exact Nat.le_refl _
  | succ r ih =>
    intro h
    have := ih (by omega)
    have := hm (w + r) (by omega)
    rw [show w + (r + 1) = w + r + 1 by omega]
    omega
theorem leF_iff {T Q : CT} {l lk w v : Nat} (hm : ∀ w, w + 1 < (T.1 1).length → plT T w + 1 ≤ plT T (w + 1)) (hlk : lk ≤ (T.1 1).length) (hw : w ≤ v) (hv : v < lk) : v ≤ leF T Q l lk w ↔ plT T v ≤ plT T w + ((Q.1 5).getD l 0 - 1 + (Q.1 6).getD l 0) := by
  unfold leF lastW
  generalize (Q.1 5).getD l 0 - 1 + (Q.1 6).getD l 0 = reach
  have le := lead_le (fun i => decide (plT T (w + 1 + i) ≤ plT T w + reach)) (lk - 1 - w)
  constructor
  · intro h
    by_cases e : v = w
    · rw [e]; omega
    · have := lead_at (p := fun i => decide (plT T (w + 1 + i) ≤ plT T w + reach)) (n := lk - 1 - w) (i := v - (w + 1)) (by omega)
      simp only [decide_eq_true_eq, show w + 1 + (v - (w + 1)) = v by omega] at this
      exact this
  · intro h
    rcases Nat.lt_or_ge (w + lead (fun i => decide (plT T (w + 1 + i) ≤ plT T w + reach)) (lk - 1 - w)) v with q | q
    · exfalso
      have := lead_end (p := fun i => decide (plT T (w + 1 + i) ≤ plT T w + reach)) (n := lk - 1 - w) (by omega)
      have := of_decide_eq_false this
      have mo := pl_mono hm (w := w + 1 + lead (fun i => decide (plT T (w + 1 + i) ≤ plT T w + reach)) (lk - 1 - w)) (v - (w + 1 + lead (fun i => decide (plT T (w + 1 + i) ≤ plT T w + reach)) (lk - 1 - w))) (by omega)
      rw [show w + 1 + lead (fun i => decide (plT T (w + 1 + i) ≤ plT T w + reach)) (lk - 1 - w) + (v - (w + 1 + lead (fun i => decide (plT T (w + 1 + i) ≤ plT T w + reach)) (lk - 1 - w))) = v by omega] at mo
      omega
    · exact q
theorem prv_no {p : Nat → Bool} {hi lo0 u : Nat} (h1 : prv p hi lo0 < u) (h2 : u ≤ hi) : p u = false := by
  unfold prv at h1
  have := lead_at (p := fun i => !p (hi - i)) (n := hi - lo0) (i := hi - u) (by omega)
  simp only [show hi - (hi - u) = u by omega] at this
  simpa using this
/-- an array's cells become known -/
theorem ms_know {z : zS} {f : Nat → Int32} {J : Nat → Nat → Int32} {Al : Nat → List Nat} (a n : Nat) (ha : 137 ≤ a) (h0 : Al a = []) : ∃ l : List Nat, l.length = n ∧ ms z f J Al = ms z f J (va_up Al a l) := by
  refine ⟨(List.range n).map (fun i => (J a i).toBitVec.toNat), by simp, ?_⟩
  unfold ms
  refine Prod.ext rfl (Prod.ext rfl (Prod.ext (funext fun b => funext fun i => ?_) rfl))
  simp only
  by_cases h : b = a
  · subst h
    rw [h0, vs, List.length_nil, if_neg (by omega), List.length_map, List.length_range]
    by_cases c : i < n
    · rw [if_pos ⟨ha, c⟩, map_at c]
      show J b i = Int32.ofNat (J b i).toBitVec.toNat
      apply Int32.toBitVec_inj.mp
      show _ = BitVec.ofNat 32 _
      rw [BitVec.ofNat_toNat, BitVec.setWidth_eq]
    · rw [if_neg (fun q => c q.2)]
  · rw [vn _ _ h]
section
variable {L d : Nat} {z : zS} {T Q : CT} {l w lk n : Nat} {f : Nat → Int32}
theorem m139x {Al : Nat → List Nat} {J : Nat → Nat → Int32} (hX : MX T Q lk n f Al) (hl : l < (Q.1 6).length) {v i : Nat} (hv : v < lk) (hi : i < (Q.1 5).getD l 0) : zden L (d + 3) 139 [.ref 136, .int (nI v), .int (nI ((Q.1 4).getD l 0 + i))] (ms z f J Al) = some (bI (fitL T Q l v i), ms z f J Al) := by
  obtain ⟨hx, hq, h36, n300, hlk, tl, ql, tw, qf, n12, hm, hp⟩ := hX
  exact m139 hx hq ql (tw v (by omega)) tl (by omega) ((qf l hl).2.2.2.2.2.2.1 i hi)
theorem m140 {Al : Nat → List Nat} {J : Nat → Nat → Int32} (hX : MX T Q lk n f Al) (hl : l < (Q.1 6).length) (hw : w < lk) :
    ∃ J' Al', FrM [] [186, 187] f J Al f J' Al' ∧ zden L (d + 4) 140 [.ref 136, .int (nI l), .int (nI w)] (ms z f J Al) = some (bI (way T Q l lk w), ms z f J' Al') ∧ (way T Q l lk w = true → (Al' 186).length = (Q.1 5).getD l 0 ∧ (Al' 187).length = 6 ∧ (∀ i, i < (Q.1 5).getD l 0 → (Al' 186).getD i 0 = (eaF T Q l lk w i).getD 0) ∧ (Al' 187).getD 0 0 = w ∧ ∀ i, 1 ≤ i → i < (Q.1 5).getD l 0 → (Al' 187).getD i 0 = laF T Q l lk w ((Q.1 5).getD l 0 - i)) := by
  have hX' := hX
  obtain ⟨hx, hq, h36, n300, hlk, tl, ql, tw, qf, n12, hm, hp⟩ := hX'
  obtain ⟨f1, f2, f3, f4, f5, f6, f7, f8, f9, f10⟩ := qf l hl
  obtain ⟨g21, g152, g153, g154, g155, g156, g157, g158⟩ := hq
  have W300 := hx.2.1
  have q1 := ql.2.1
  have qe0 := (f7 0 (by omega)).1
  have ld149 : ∀ (J : Nat → Nat → Int32) (Al1 : Nat → List Nat), Al1 149 = Al 149 → ∀ v, v < lk → (O2 L).2.2.2.2.2.1 (ms z f J Al1) 0 149 (nI v) = some (nI (plT T v)) := by
    intro J Al1 e v hv
    obtain ⟨a1, a2, a3, a4, a5, a6, a7, a8⟩ := hx.2.2.2 v (by omega)
    rw [L149 (by rw [e]; exact a7) (by omega), e, a8]
  have e0 : zden L (d + 4) 140 [.ref 136, .int (nI l), .int (nI w)] (ms z f J Al) = if fitL T Q l w 0 = true then xruns (O2 L) (zden L (d + 3)) 140 26 [.ref 136, .int (nI l), .int (nI w), .int (nI ((Q.1 4).getD l 0)), .int (nI ((Q.1 5).getD l 0)), .null, .null, .null] [] (ms z f J Al) else xruns (O2 L) (zden L (d + 3)) 140 24 [.ref 136, .int (nI l), .int (nI w), .int (nI ((Q.1 4).getD l 0)), .int (nI ((Q.1 5).getD l 0)), .null, .null, .null] [] (ms z f J Al) := by
    have this : zden L (d + 3) 139 [.ref 136, .int (nI w), .int (nI ((Q.1 4).getD l 0))] (ms z f J Al) = some (bI (fitL T Q l w 0), ms z f J Al) := m139x (L := L) (d := d) (z := z) (J := J) hX hl hw (i := 0) (by omega)
    rw [N140 _ _ _ ob136, B140_0, J136_22, Option.bind_some, L152 (by rw [g152]; exact f1) (by omega), Option.bind_some, J136_23, Option.bind_some, L153 (by rw [g153]; exact f2) (by omega), Option.bind_some, g152, g153, this, Option.bind_some, iB]
  by_cases fit0 : fitL T Q l w 0 = true
  · obtain ⟨J1, Al1, k1, k2, k3, k4⟩ := ms_forgetL (z := z) (f := f) [186, 187] J Al
    have fr1 : FrM [] [186, 187] f J Al f J1 Al1 := ⟨k2, fun _ _ => rfl, k4⟩
    obtain ⟨reach, hreach⟩ : ∃ reach, reach = (Q.1 5).getD l 0 - 1 + (Q.1 6).getD l 0 := ⟨_, rfl⟩
    have pw := hp w (by omega)
    have la := leF_lt (T := T) (Q := Q) (l := l) hw
    have lim : ∀ v, w ≤ v → v < lk → (v ≤ leF T Q l lk w ↔ plT T v ≤ plT T w + reach) := fun v h1 h2 => by rw [hreach]; exact leF_iff hm (by omega) h1 h2
    have X1 : ∀ (J : Nat → Nat → Int32) (Al2 : Nat → List Nat), (∀ a, a ∉ [186, 187] → Al2 a = Al a) → MX T Q lk n f Al2 := fun J Al2 h => hX.fr (J := J) (J' := J) (⟨rfl, fun _ _ => rfl, fun a ha => h a (fun q => ha (by simp at q ⊢; omega))⟩)
    have e26 : xruns (O2 L) (zden L (d + 3)) 140 26 [.ref 136, .int (nI l), .int (nI w), .int (nI ((Q.1 4).getD l 0)), .int (nI ((Q.1 5).getD l 0)), .null, .null, .null] [] (ms z f J Al) = xruns (O2 L) (zden L (d + 3)) 140 56 [.ref 136, .int (nI l), .int (nI w), .int (nI ((Q.1 4).getD l 0)), .int (nI ((Q.1 5).getD l 0)), .int (nI (plT T w + reach)), .int (nI 1), .null] [] (ms z f J1 (va_up Al1 186 [w])) := by
      rw [k1, B140_26, J136_17, Option.bind_some, ld149 J1 Al1 (k4 149 (by simp)) w hw, Option.bind_some, J136_24, Option.bind_some, L154 (by rw [k4 154 (by simp), g154]; exact f3) (by omega), Option.bind_some, k4 154 (by simp), g154, J136_70, Option.bind_some, A186 _ (by rw [k3 186 (by simp)]; rfl) (by omega), Option.bind_some, k3 186 (by simp), nI_add, pk_sub (by omega), nI_add, show plT T w + (Q.1 5).getD l 0 - 1 + (Q.1 6).getD l 0 = plT T w + reach by omega]
      rfl
    -- inner search for the next word
    have inner : ∀ (r k i a : Nat) (Al2 : Nat → List Nat), (∀ a, a ∉ [186, 187] → Al2 a = Al a) → k + r = lk - a → a ≤ lk → i < (Q.1 5).getD l 0 → (∀ j, j < k → fitL T Q l (a + j) i = false) → xruns (O2 L) (zden L (d + 3)) 140 76 [.ref 136, .int (nI l), .int (nI w), .int (nI ((Q.1 4).getD l 0)), .int (nI ((Q.1 5).getD l 0)), .int (nI (plT T w + reach)), .int (nI i), .int (nI (a + k))] [] (ms z f J1 Al2) = xruns (O2 L) (zden L (d + 3)) 140 104 [.ref 136, .int (nI l), .int (nI w), .int (nI ((Q.1 4).getD l 0)), .int (nI ((Q.1 5).getD l 0)), .int (nI (plT T w + reach)), .int (nI i), .int (nI (a + lead (fun j => !fitL T Q l (a + j) i) (lk - a)))] [] (ms z f J1 Al2) := by
      intro r
      induction r with
      | zero =>
        intro k i a Al2 hA hk ha hi hj
        have : lead (fun j => !fitL T Q l (a + j) i) (lk - a) = k := lead_eq (by omega) (fun j q => by rw [hj j q]; rfl) (fun q => by omega)
        rw [B140_76, m136 hx.1 h36 W300 n300, Option.bind_some, ← hlk, iL (by omega) (by omega), if_pos (by omega), this]
      | succ r ih =>
        intro k i a Al2 hA hk ha hi hj
        rw [B140_76, m136 hx.1 h36 W300 n300, Option.bind_some, ← hlk, iL (by omega) (by omega), if_neg (by omega), B140_85, nI_add, m139x (X1 J1 Al2 hA) hl (by omega) hi, Option.bind_some, iB]
        by_cases c : fitL T Q l (a + k) i = true
        · have : lead (fun j => !fitL T Q l (a + j) i) (lk - a) = k := lead_eq (by omega) (fun j q => by rw [hj j q]; rfl) (fun q => by rw [c]; rfl)
          rw [if_pos c, this]
        · rw [if_neg c, B140_98, nI_add]
          exact ih (k + 1) i a Al2 hA (by omega) ha hi (fun j hj' => by
            by_cases q : j = k
            · rw [q]; simpa using c
            · exact hj j (by omega))
    -- the earliest ones
    have early : ∀ (r i : Nat) (v7 : Value), i + r = (Q.1 5).getD l 0 → 1 ≤ i → (eaF T Q l lk w (i - 1)).isSome = true → ((eaF T Q l lk w ((Q.1 5).getD l 0 - 1)).isSome = true → ∃ v7', xruns (O2 L) (zden L (d + 3)) 140 56 [.ref 136, .int (nI l), .int (nI w), .int (nI ((Q.1 4).getD l 0)), .int (nI ((Q.1 5).getD l 0)), .int (nI (plT T w + reach)), .int (nI i), v7] [] (ms z f J1 (va_up Al1 186 ((List.range i).map (fun i => (eaF T Q l lk w i).getD 0)))) = xruns (O2 L) (zden L (d + 3)) 140 142 [.ref 136, .int (nI l), .int (nI w), .int (nI ((Q.1 4).getD l 0)), .int (nI ((Q.1 5).getD l 0)), .int (nI (plT T w + reach)), .int (nI ((Q.1 5).getD l 0)), v7'] [] (ms z f J1 (va_up Al1 186 ((List.range ((Q.1 5).getD l 0)).map (fun i => (eaF T Q l lk w i).getD 0))))) ∧ ((eaF T Q l lk w ((Q.1 5).getD l 0 - 1)).isSome = false → ∃ E, xruns (O2 L) (zden L (d + 3)) 140 56 [.ref 136, .int (nI l), .int (nI w), .int (nI ((Q.1 4).getD l 0)), .int (nI ((Q.1 5).getD l 0)), .int (nI (plT T w + reach)), .int (nI i), v7] [] (ms z f J1 (va_up Al1 186 ((List.range i).map (fun i => (eaF T Q l lk w i).getD 0)))) = some (nI 0, ms z f J1 (va_up Al1 186 E))) := by
      intro r
      induction r with
      | zero =>
        intro i v7 hi h1 hs
        have : i = (Q.1 5).getD l 0 := by omega
        subst this
        refine ⟨fun _ => ⟨v7, ?_⟩, fun q => absurd hs (by rw [q]; decide)⟩
        rw [B140_56, iL (by omega) (by omega), if_pos (Nat.le_refl _)]
      | succ r ih =>
        intro i v7 hi h1 hs
        cases hv : eaF T Q l lk w (i - 1) with
        | none => rw [hv] at hs; cases hs
        | some v =>
          have hv' : ear (fitL T Q l) (leF T Q l lk w) w (i - 1) = some v := hv
          have vlk : v < lk ∧ w ≤ v := by
            have g := ear_ge hv'
            by_cases e : i = 1
            · subst e
              cases hv'
              omega
            · have := g.2 (by omega)
              omega
          have hA : ∀ E : List Nat, ∀ a, a ∉ [186, 187] → va_up Al1 186 E a = Al a := by
            intro E a ha
            simp only [List.mem_cons, List.not_mem_nil, or_false, not_or] at ha
            rw [vn _ _ ha.1]
            exact k4 a (by simp; omega)
          have e1 : xruns (O2 L) (zden L (d + 3)) 140 56 [.ref 136, .int (nI l), .int (nI w), .int (nI ((Q.1 4).getD l 0)), .int (nI ((Q.1 5).getD l 0)), .int (nI (plT T w + reach)), .int (nI i), v7] [] (ms z f J1 (va_up Al1 186 ((List.range i).map (fun i => (eaF T Q l lk w i).getD 0)))) = xruns (O2 L) (zden L (d + 3)) 140 104 [.ref 136, .int (nI l), .int (nI w), .int (nI ((Q.1 4).getD l 0)), .int (nI ((Q.1 5).getD l 0)), .int (nI (plT T w + reach)), .int (nI i), .int (nI (v + 1 + lead (fun j => !fitL T Q l (v + 1 + j) i) (lk - (v + 1))))] [] (ms z f J1 (va_up Al1 186 ((List.range i).map (fun i => (eaF T Q l lk w i).getD 0)))) := by
            rw [B140_56, iL (by omega) (by omega), if_neg (by omega), B140_63, J136_70, Option.bind_some, pk_sub h1, L186 (by rw [vs, List.length_map, List.length_range]; omega) (by omega), Option.bind_some, vs, map_at (by omega), hv]
            show xruns (O2 L) (zden L (d + 3)) 140 76 [.ref 136, .int (nI l), .int (nI w), .int (nI ((Q.1 4).getD l 0)), .int (nI ((Q.1 5).getD l 0)), .int (nI (plT T w + reach)), .int (nI i), .int (nI v + nI 1)] [] _ = _
            rw [nI_add]
            exact inner (lk - (v + 1)) 0 i (v + 1) _ (hA _) (by omega) (by omega) (by omega) (fun j q => by omega)
          have en : eaF T Q l lk w i = nxt (fun x => fitL T Q l x i) (v + 1) (leF T Q l lk w) := by
            show ear _ _ _ i = _
            conv => lhs; rw [show i = i - 1 + 1 by omega]; unfold ear
            rw [hv', show i - 1 + 1 = i by omega]; rfl
          have ll := lead_le (fun j => !fitL T Q l (v + 1 + j) i) (lk - (v + 1))
          generalize hy : v + 1 + lead (fun j => !fitL T Q l (v + 1 + j) i) (lk - (v + 1)) = y at e1
          have ylk : y ≤ lk := by omega
          have nof : ∀ u, v + 1 ≤ u → u < y → fitL T Q l u i = false := by
            intro u h1 h2
            have := lead_at (p := fun j => !fitL T Q l (v + 1 + j) i) (n := lk - (v + 1)) (i := u - (v + 1)) (by omega)
            simp only [show v + 1 + (u - (v + 1)) = u by omega] at this
            simpa using this
          have yf : y < lk → fitL T Q l y i = true := by
            intro q
            have := lead_end (p := fun j => !fitL T Q l (v + 1 + j) i) (n := lk - (v + 1)) (by omega)
            simp only [hy] at this
            simpa using this
          -- found
          by_cases C : y < lk ∧ plT T y ≤ plT T w + reach
          · have yl : y ≤ leF T Q l lk w := (lim y (by omega) C.1).mpr C.2
            have es : eaF T Q l lk w i = some y := by rw [en]; exact nxt_eq (by omega) yl (yf C.1) (fun u h1 h2 => nof u h1 h2)
            have py := hp y (by omega)
            have e2 : xruns (O2 L) (zden L (d + 3)) 140 56 [.ref 136, .int (nI l), .int (nI w), .int (nI ((Q.1 4).getD l 0)), .int (nI ((Q.1 5).getD l 0)), .int (nI (plT T w + reach)), .int (nI i), v7] [] (ms z f J1 (va_up Al1 186 ((List.range i).map (fun i => (eaF T Q l lk w i).getD 0)))) = xruns (O2 L) (zden L (d + 3)) 140 56 [.ref 136, .int (nI l), .int (nI w), .int (nI ((Q.1 4).getD l 0)), .int (nI ((Q.1 5).getD l 0)), .int (nI (plT T w + reach)), .int (nI (i + 1)), .int (nI y)] [] (ms z f J1 (va_up Al1 186 ((List.range (i + 1)).map (fun i => (eaF T Q l lk w i).getD 0)))) := by
              have el : (List.range i).map (fun i => (eaF T Q l lk w i).getD 0) ++ [y] = (List.range (i + 1)).map (fun i => (eaF T Q l lk w i).getD 0) := by
                rw [← mapS, es]; rfl
              rw [e1, B140_104, m136 hx.1 h36 W300 n300, Option.bind_some, ← hlk, iL (by omega) (by omega), if_neg (by omega), B140_113, J136_17, Option.bind_some, ld149 _ _ (hA _ 149 (by simp)) y C.1, Option.bind_some, iL (by omega) (by omega), if_pos C.2, B140_127, J136_70, Option.bind_some, A186 _ (by rw [vs, List.length_map, List.length_range]) (by omega), Option.bind_some, vs, vv, el, nI_add]
            obtain ⟨i1, i2⟩ := ih (i + 1) (.int (nI y)) (by omega) (by omega) (by rw [Nat.add_sub_cancel, es]; rfl)
            refine ⟨fun q => ?_, fun q => ?_⟩
            · obtain ⟨v7', ev⟩ := i1 q
              exact ⟨v7', by rw [e2, ev]⟩
            · obtain ⟨E, ev⟩ := i2 q
              exact ⟨E, by rw [e2, ev]⟩
          · have es : eaF T Q l lk w i = none := by
              rw [en]
              cases hn : nxt (fun x => fitL T Q l x i) (v + 1) (leF T Q l lk w) with
              | none => rfl
              | some x =>
                exfalso
                obtain ⟨x1, x2, x3, x4⟩ := nxt_some hn
                have yx : y ≤ x := by
                  rcases Nat.lt_or_ge x y with q | q
                  · rw [nof x x1 q] at x3; cases x3
                  · exact q
                exact C ⟨by omega, (lim y (by omega) (by omega)).mp (by omega)⟩
            have esn : (eaF T Q l lk w ((Q.1 5).getD l 0 - 1)).isSome = false := by
              cases hq : (eaF T Q l lk w ((Q.1 5).getD l 0 - 1)).isSome with
              | false => rfl
              | true =>
                have := ear_pre (i := i) (show i ≤ (Q.1 5).getD l 0 - 1 by omega) hq
                have es : ear (fitL T Q l) (leF T Q l lk w) w i = none := es
                rw [es] at this; cases this
            refine ⟨fun q => absurd q (by rw [esn]; decide), fun _ => ⟨(List.range i).map (fun i => (eaF T Q l lk w i).getD 0), ?_⟩⟩
            rw [e1, B140_104, m136 hx.1 h36 W300 n300, Option.bind_some, ← hlk, iL (by omega) (by omega)]
            by_cases c : lk ≤ y
            · rw [if_pos c, B140_125, iO0]
            · have py := hp y (by omega)
              rw [if_neg c, B140_113, J136_17, Option.bind_some, ld149 _ _ (hA _ 149 (by simp)) y (by omega), Option.bind_some, iL (by omega) (by omega), if_neg (fun q => C ⟨by omega, q⟩), B140_125, iO0]
    have ew : way T Q l lk w = (eaF T Q l lk w ((Q.1 5).getD l 0 - 1)).isSome := by
      show (fitL T Q l w 0 && _) = _
      rw [fit0, Bool.true_and]; rfl
    obtain ⟨i1, i2⟩ := early ((Q.1 5).getD l 0 - 1) 1 .null (by omega) (by omega) rfl
    by_cases S : (eaF T Q l lk w ((Q.1 5).getD l 0 - 1)).isSome = true
    · obtain ⟨v7', ev⟩ := i1 S
      obtain ⟨E0, l0, eK⟩ := ms_know (z := z) (f := f) (J := J1) (Al := va_up Al1 186 ((List.range ((Q.1 5).getD l 0)).map (fun i => (eaF T Q l lk w i).getD 0))) 187 6 (by omega) (by rw [vn _ _ (by omega)]; exact k3 187 (by simp))
      generalize hR : va_up Al1 186 ((List.range ((Q.1 5).getD l 0)).map (fun i => (eaF T Q l lk w i).getD 0)) = R at *
      have R186 : R 186 = (List.range ((Q.1 5).getD l 0)).map (fun i => (eaF T Q l lk w i).getD 0) := by rw [← hR, vs]
      have RA : ∀ E : List Nat, ∀ a, a ∉ [186, 187] → va_up R 187 E a = Al a := by
        intro E a ha
        simp only [List.mem_cons, List.not_mem_nil, or_false, not_or] at ha
        rw [vn _ _ ha.2, ← hR, vn _ _ ha.1]
        exact k4 a (by simp; omega)
      -- down to the latest one
      have down : ∀ (r k y x : Nat) (E : List Nat), y + r = x → x < lk → w < y → y ≤ leF T Q l lk w → 1 ≤ k → k < (Q.1 5).getD l 0 → fitL T Q l y k = true → (∀ u, y < u → u ≤ x → u ≤ leF T Q l lk w → fitL T Q l u k = false) → xruns (O2 L) (zden L (d + 3)) 140 161 [.ref 136, .int (nI l), .int (nI w), .int (nI ((Q.1 4).getD l 0)), .int (nI ((Q.1 5).getD l 0)), .int (nI (plT T w + reach)), .int (nI x), .int (nI k)] [] (ms z f J1 (va_up R 187 E)) = xruns (O2 L) (zden L (d + 3)) 140 192 [.ref 136, .int (nI l), .int (nI w), .int (nI ((Q.1 4).getD l 0)), .int (nI ((Q.1 5).getD l 0)), .int (nI (plT T w + reach)), .int (nI y), .int (nI k)] [] (ms z f J1 (va_up R 187 E)) := by
        intro r
        induction r with
        | zero =>
          intro k y x E hr hx' hwy hyl hk1 hk2 hf hu
          have : x = y := by omega
          subst this
          have px := hp x (by omega)
          have := (lim x (by omega) hx').mp hyl
          rw [B140_161, J136_17, Option.bind_some, ld149 _ _ (RA _ 149 (by simp)) x hx', Option.bind_some, iT (by omega) (by omega), if_neg (by omega), B140_173, nI_add, m139x (X1 J1 _ (RA E)) hl hx' hk2, Option.bind_some, iB, if_pos hf]
        | succ r ih =>
          intro k y x E hr hx' hwy hyl hk1 hk2 hf hu
          have px := hp x (by omega)
          have e186 : xruns (O2 L) (zden L (d + 3)) 140 186 [.ref 136, .int (nI l), .int (nI w), .int (nI ((Q.1 4).getD l 0)), .int (nI ((Q.1 5).getD l 0)), .int (nI (plT T w + reach)), .int (nI x), .int (nI k)] [] (ms z f J1 (va_up R 187 E)) = xruns (O2 L) (zden L (d + 3)) 140 192 [.ref 136, .int (nI l), .int (nI w), .int (nI ((Q.1 4).getD l 0)), .int (nI ((Q.1 5).getD l 0)), .int (nI (plT T w + reach)), .int (nI y), .int (nI k)] [] (ms z f J1 (va_up R 187 E)) := by
            rw [B140_186, nI_m1 (by omega)]
            exact ih k y (x - 1) E (by omega) (by omega) hwy hyl hk1 hk2 hf (fun u h1 h2 h3 => hu u h1 (by omega) h3)
          rw [B140_161, J136_17, Option.bind_some, ld149 _ _ (RA _ 149 (by simp)) x hx', Option.bind_some, iT (by omega) (by omega)]
          by_cases c : plT T w + reach < plT T x
          · rw [if_pos c]; exact e186
          · have xl := (lim x (by omega) hx').mpr (by omega)
            rw [if_neg c, B140_173, nI_add, m139x (X1 J1 _ (RA E)) hl hx' hk2, Option.bind_some, iB, if_neg (by rw [hu x (by omega) (Nat.le_refl _) xl]; decide)]
            exact e186
      have late : ∀ (i : Nat) (E : List Nat) (x : Nat), i < (Q.1 5).getD l 0 → E.length = 6 → (∀ j, i < j → j < (Q.1 5).getD l 0 → E.getD j 0 = laF T Q l lk w ((Q.1 5).getD l 0 - j)) → x < lk → (i = (Q.1 5).getD l 0 - 1 → x = lk - 1) → (i ≠ (Q.1 5).getD l 0 - 1 → x = laF T Q l lk w ((Q.1 5).getD l 0 - 1 - i) - 1) → ∃ E', xruns (O2 L) (zden L (d + 3)) 140 156 [.ref 136, .int (nI l), .int (nI w), .int (nI ((Q.1 4).getD l 0)), .int (nI ((Q.1 5).getD l 0)), .int (nI (plT T w + reach)), .int (nI x), .int (nI i)] [] (ms z f J1 (va_up R 187 E)) = some (nI 1, ms z f J1 (va_up R 187 E')) ∧ E'.length = 6 ∧ E'.getD 0 0 = w ∧ ∀ j, 1 ≤ j → j < (Q.1 5).getD l 0 → E'.getD j 0 = laF T Q l lk w ((Q.1 5).getD l 0 - j) := by
        intro i
        induction i with
        | zero =>
          intro E x hi hE hj hx' _ _
          refine ⟨E.set 0 w, ?_, by rw [List.length_set, hE], ?_, fun j h1 h2 => ?_⟩
          · rw [B140_156, iL (by omega) (by omega), if_pos (Nat.le_refl _), B140_210, J136_71, Option.bind_some, U187 w (by rw [vs, hE]; omega) (by omega), Option.bind_some, vs, vv, iO1]
          · simp [List.getD, hE]
          · have := hj j (by omega) h2
            have e : (E.set 0 w).getD j 0 = E.getD j 0 := by
              simp only [List.getD]
              rw [List.getElem?_set, if_neg (by omega)]
            rw [e]; exact this
        | succ i ih =>
          intro E x hi hE hj hx' hx1 hx2
          obtain ⟨y0, y1, y2, y3, y4⟩ := lat_ge (fit := fitL T Q l) (last := leF T Q l lk w) (w := w) (n := (Q.1 5).getD l 0) S ((Q.1 5).getD l 0 - (i + 1)) (by omega) (by omega)
          rw [show (Q.1 5).getD l 0 - ((Q.1 5).getD l 0 - (i + 1)) = i + 1 by omega] at y1 y4
          have gy := (ear_ge y1).1
          have y2 : y0 ≤ laF T Q l lk w ((Q.1 5).getD l 0 - (i + 1)) := y2
          have y3 : laF T Q l lk w ((Q.1 5).getD l 0 - (i + 1)) ≤ leF T Q l lk w := y3
          have y4 : fitL T Q l (laF T Q l lk w ((Q.1 5).getD l 0 - (i + 1))) (i + 1) = true := y4
          -- it is the last below x
          have eL : laF T Q l lk w ((Q.1 5).getD l 0 - (i + 1)) = prv (fun x => fitL T Q l x (i + 1)) (laF T Q l lk w ((Q.1 5).getD l 0 - 1 - (i + 1)) - 1) w := by
            show lat _ _ _ _ _ = _
            conv => lhs; rw [show (Q.1 5).getD l 0 - (i + 1) = (Q.1 5).getD l 0 - 1 - (i + 1) + 1 by omega]; unfold lat
            rw [show (Q.1 5).getD l 0 - 1 - ((Q.1 5).getD l 0 - 1 - (i + 1)) = i + 1 by omega]; rfl
          have hiB : (i + 1 = (Q.1 5).getD l 0 - 1 → laF T Q l lk w ((Q.1 5).getD l 0 - 1 - (i + 1)) - 1 = leF T Q l lk w) := by
            intro q
            rw [show (Q.1 5).getD l 0 - 1 - (i + 1) = 0 by omega]
            show leF T Q l lk w + 1 - 1 = _
            omega
          have yx : laF T Q l lk w ((Q.1 5).getD l 0 - (i + 1)) ≤ x := by
            by_cases q : i + 1 = (Q.1 5).getD l 0 - 1
            · rw [hx1 q]; omega
            · have hh := hx2 q
              have : laF T Q l lk w ((Q.1 5).getD l 0 - (i + 1)) ≤ laF T Q l lk w ((Q.1 5).getD l 0 - 1 - (i + 1)) - 1 := by
                rw [eL]
                unfold prv
                omega
              omega
          have nof : ∀ u, laF T Q l lk w ((Q.1 5).getD l 0 - (i + 1)) < u → u ≤ x → u ≤ leF T Q l lk w → fitL T Q l u (i + 1) = false := by
            intro u h1 h2 h3
            rw [eL] at h1
            refine prv_no (p := fun x => fitL T Q l x (i + 1)) h1 ?_
            by_cases q : i + 1 = (Q.1 5).getD l 0 - 1
            · rw [hiB q]; exact h3
            · rw [← hx2 q]; exact h2
          obtain ⟨E', g1, g2, g3, g4⟩ := ih (E.set (i + 1) (laF T Q l lk w ((Q.1 5).getD l 0 - (i + 1)))) (laF T Q l lk w ((Q.1 5).getD l 0 - (i + 1)) - 1) (by omega) (by rw [List.length_set, hE]) (fun j h1 h2 => by
            by_cases q : j = i + 1
            · subst q
              simp only [List.getD]
              rw [List.getElem?_set_self (by omega)]; rfl
            · have e : (E.set (i + 1) (laF T Q l lk w ((Q.1 5).getD l 0 - (i + 1)))).getD j 0 = E.getD j 0 := by
                simp only [List.getD]
                rw [List.getElem?_set, if_neg (by omega)]
              rw [e]
              exact hj j (by omega) h2) (by omega) (fun q => by omega) (fun _ => by rw [show (Q.1 5).getD l 0 - 1 - i = (Q.1 5).getD l 0 - (i + 1) by omega])
          refine ⟨E', ?_, g2, g3, g4⟩
          rw [B140_156, iL (by omega) (by omega), if_neg (by omega), down (x - laF T Q l lk w ((Q.1 5).getD l 0 - (i + 1))) (i + 1) (laF T Q l lk w ((Q.1 5).getD l 0 - (i + 1))) x E (by omega) hx' (by omega) y3 (by omega) hi y4 nof, B140_192, J136_71, Option.bind_some, U187 _ (by rw [vs, hE]; omega) (by omega), Option.bind_some, vs, vv, nI_m1 (by omega), nI_m1 (by omega), Nat.add_sub_cancel]
          exact g1
      obtain ⟨E', g1, g2, g3, g4⟩ := late ((Q.1 5).getD l 0 - 1) E0 (lk - 1) (by omega) l0 (fun j h1 h2 => by omega) (by omega) (fun _ => rfl) (fun q => absurd rfl q)
      refine ⟨J1, va_up R 187 E', ⟨k2, fun _ _ => rfl, RA E'⟩, ?_, fun _ => ⟨?_, ?_, ?_, ?_, ?_⟩⟩
      · have ev : xruns (O2 L) (zden L (d + 3)) 140 56 [.ref 136, .int (nI l), .int (nI w), .int (nI ((Q.1 4).getD l 0)), .int (nI ((Q.1 5).getD l 0)), .int (nI (plT T w + reach)), .int (nI 1), .null] [] (ms z f J1 (va_up Al1 186 [w])) = xruns (O2 L) (zden L (d + 3)) 140 142 [.ref 136, .int (nI l), .int (nI w), .int (nI ((Q.1 4).getD l 0)), .int (nI ((Q.1 5).getD l 0)), .int (nI (plT T w + reach)), .int (nI ((Q.1 5).getD l 0)), v7'] [] (ms z f J1 R) := ev
        rw [e0, if_pos fit0, e26, ev, B140_142, m136 hx.1 h36 W300 n300, Option.bind_some, ← hlk, pk_sub (by omega), pk_sub f4, eK, ew, S]
        exact g1
      · rw [vn _ _ (by omega), R186, List.length_map, List.length_range]
      · rw [vs]; exact g2
      · intro i hi
        rw [vn _ _ (by omega), R186, map_at hi]
      · rw [vs]; exact g3
      · intro i h1 h2
        rw [vs]; exact g4 i h1 h2
    · have S' : (eaF T Q l lk w ((Q.1 5).getD l 0 - 1)).isSome = false := by simpa using S
      obtain ⟨E, ev⟩ := i2 S'
      have ev : xruns (O2 L) (zden L (d + 3)) 140 56 [.ref 136, .int (nI l), .int (nI w), .int (nI ((Q.1 4).getD l 0)), .int (nI ((Q.1 5).getD l 0)), .int (nI (plT T w + reach)), .int (nI 1), .null] [] (ms z f J1 (va_up Al1 186 [w])) = some (nI 0, ms z f J1 (va_up Al1 186 E)) := ev
      refine ⟨J1, va_up Al1 186 E, fr1.trans (FrM.a (by simp)), ?_, fun q => absurd q (by rw [ew, S']; decide)⟩
      rw [e0, if_pos fit0, e26, ev, ew, S']; rfl
  · have ew : way T Q l lk w = false := by
      show (fitL T Q l w 0 && _) = _
      rw [show fitL T Q l w 0 = false by simpa using fit0, Bool.false_and]
    refine ⟨J, Al, FrM.refl, ?_, fun q => absurd q (by rw [ew]; decide)⟩
    rw [e0, if_neg fit0, B140_24, iO0, ew]; rfl
end
