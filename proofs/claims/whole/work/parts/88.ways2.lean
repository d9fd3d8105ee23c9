/-! EVALUATION: the ways of a leaf, in the class -/
def MFr (ks : List Nat) (M M' : CT) : Prop := M'.2 = M.2 ∧ ∀ k, k ∉ ks → M'.1 k = M.1 k
theorem MFr.refl {ks : List Nat} {M : CT} : MFr ks M M := ⟨rfl, fun _ _ => rfl⟩
theorem MFr.trans {ks : List Nat} {M M' M'' : CT} (h : MFr ks M M') (h' : MFr ks M' M'') : MFr ks M M'' := ⟨h'.1.trans h.1, fun k q => (h'.2 k q).trans (h.2 k q)⟩
theorem MFr.r {ks : List Nat} {M : CT} {k : Nat} {x : List Nat} (h : k ∈ ks) : MFr ks M (va_up M.1 k x, M.2) := ⟨rfl, fun j q => vn _ _ (fun e => q (e ▸ h))⟩
theorem MFr.mono {ks ks' : List Nat} {M M' : CT} (h : MFr ks M M') (h1 : ∀ k ∈ ks, k ∈ ks') : MFr ks' M M' := ⟨h.1, fun k q => h.2 k (fun e => q (h1 k e))⟩
def leF (T Q : CT) (l lk w : Nat) : Nat := lastW (plT T) lk w ((Q.1 5).getD l 0 - 1 + (Q.1 6).getD l 0)
def eaF (T Q : CT) (l lk w i : Nat) : Option Nat := ear (fitL T Q l) (leF T Q l lk w) w i
def laF (T Q : CT) (l lk w r : Nat) : Nat := lat (fitL T Q l) (leF T Q l lk w) w ((Q.1 5).getD l 0) r
def way (T Q : CT) (l lk w : Nat) : Bool := wayF (fitL T Q l) (leF T Q l lk w) w ((Q.1 5).getD l 0)
def inW (T Q : CT) (l lk w v : Nat) : Bool := inWF (fitL T Q l) (leF T Q l lk w) w ((Q.1 5).getD l 0) v
theorem leF_lt {T Q : CT} {l lk w : Nat} (hw : w < lk) : w ≤ leF T Q l lk w ∧ leF T Q l lk w < lk := by
  unfold leF lastW
  have := lead_le (fun i => decide (plT T (w + 1 + i) ≤ plT T w + ((Q.1 5).getD l 0 - 1 + (Q.1 6).getD l 0))) (lk - 1 - w)
  omega
section
variable {L d : Nat} {z : zS} {T Q : CT} {t q l lk n : Nat}
theorem fb_at {F : List Nat} (hF : FB T Q l lk n 0 F) {v i : Nat} (hv : v < lk) (hi : i < n) : (F.getD v 0).testBit i = fitL T Q l v i := by
  rw [hF.2 v hv i]
  simp [hi]
theorem x19 {M : CT} {w last : Nat} (hF : FB T Q l lk n 0 (M.1 6)) (h300 : lk ≤ 300) (hw : w < lk) (hl : last < lk) (n1 : 1 ≤ n) (n6 : n ≤ 6) :
    ∃ E, zden L (d + 3) 19 [.ref 4, .int (nI w), .int (nI last), .int (nI n)] (putM z M) = some (bI (ear (fitL T Q l) last w (n - 1)).isSome, putM z (va_up M.1 10 E, M.2)) ∧ ((ear (fitL T Q l) last w (n - 1)).isSome = true → E = (List.range n).map (fun i => (ear (fitL T Q l) last w i).getD 0)) := by
  have inner : ∀ (r k i a : Nat) (E : List Nat), k + r = last + 1 - a → i < n → (∀ j, j < k → fitL T Q l (a + j) i = false) → a ≤ last + 1 → xruns (O2 L) (zden L (d + 2)) 19 39 [.ref 4, .int (nI w), .int (nI last), .int (nI n), .int (nI i), .int (nI (a + k))] [] (putM z (va_up M.1 10 E, M.2)) = xruns (O2 L) (zden L (d + 2)) 19 65 [.ref 4, .int (nI w), .int (nI last), .int (nI n), .int (nI i), .int (nI (a + lead (fun j => !fitL T Q l (a + j) i) (last + 1 - a)))] [] (putM z (va_up M.1 10 E, M.2)) := by
    intro r
    induction r with
    | zero =>
      intro k i a E hk hi hj ha
      have : lead (fun j => !fitL T Q l (a + j) i) (last + 1 - a) = k := lead_eq (by omega) (fun j q => by rw [hj j q]; rfl) (fun q => by omega)
      rw [B19_39, iT (by omega) (by omega), if_pos (by omega), this]
    | succ r ih =>
      intro k i a E hk hi hj ha
      have fl : (M.1 6).length ≤ 400 := by rw [hF.1]; omega
      rw [B19_39, iT (by omega) (by omega), if_neg (by omega), B19_45, J4_8, Option.bind_some, X6h (M := (va_up M.1 10 E, M.2)) (by omega) fl (by omega), Option.bind_some]
      show (if bI (((M.1 6).getD (a + k) 0).testBit i) = nI 0 then _ else _) = _
      rw [fb_at hF (by omega) hi, iB]
      by_cases c : fitL T Q l (a + k) i = true
      · have : lead (fun j => !fitL T Q l (a + j) i) (last + 1 - a) = k := lead_eq (by omega) (fun j q => by rw [hj j q]; rfl) (fun q => by rw [c]; rfl)
        rw [if_pos c, this]
      · rw [if_neg c, B19_59, nI_add]
        exact ih (k + 1) i a E (by omega) hi (fun j hj' => by
          by_cases q : j = k
          · rw [q]; simpa using c
          · exact hj j (by omega)) ha
  have outer : ∀ (r i : Nat) (v5 : Value), i + r = n → 1 ≤ i → (ear (fitL T Q l) last w (i - 1)).isSome = true → ∃ E, xruns (O2 L) (zden L (d + 2)) 19 18 [.ref 4, .int (nI w), .int (nI last), .int (nI n), .int (nI i), v5] [] (putM z (va_up M.1 10 ((List.range i).map (fun i => (ear (fitL T Q l) last w i).getD 0)), M.2)) = some (bI (ear (fitL T Q l) last w (n - 1)).isSome, putM z (va_up M.1 10 E, M.2)) ∧ ((ear (fitL T Q l) last w (n - 1)).isSome = true → E = (List.range n).map (fun i => (ear (fitL T Q l) last w i).getD 0)) := by
    intro r
    induction r with
    | zero =>
      intro i v5 hi h1 hs
      have : i = n := by omega
      subst this
      refine ⟨_, ?_, fun _ => rfl⟩
      rw [B19_18, iL (by omega) (by omega), if_pos (by omega), B19_88, iO1, hs]; rfl
    | succ r ih =>
      intro i v5 hi h1 hs
      cases hv : ear (fitL T Q l) last w (i - 1) with
      | none => rw [hv] at hs; cases hs
      | some v =>
        have vle : v ≤ last ∨ i = 1 := by
          by_cases e : i = 1
          · exact Or.inr e
          · exact Or.inl ((ear_ge hv).2 (by omega))
        have vlk : v < lk := by
          rcases vle with q | q
          · omega
          · subst q
            cases hv
            exact hw
        have gl : zget ((((List.range i).map (fun i => (ear (fitL T Q l) last w i).getD 0))).map nI) (nI (i - 1)) = nI v := by
          rw [zget_map (by simp; omega) (by simp; omega), gD (by simp; omega), List.getElem_map, List.getElem_range, hv]; rfl
        have e1 : xruns (O2 L) (zden L (d + 2)) 19 18 [.ref 4, .int (nI w), .int (nI last), .int (nI n), .int (nI i), v5] [] (putM z (va_up M.1 10 ((List.range i).map (fun i => (ear (fitL T Q l) last w i).getD 0)), M.2)) = xruns (O2 L) (zden L (d + 2)) 19 39 [.ref 4, .int (nI w), .int (nI last), .int (nI n), .int (nI i), .int (nI (v + 1 + 0))] [] (putM z (va_up M.1 10 ((List.range i).map (fun i => (ear (fitL T Q l) last w i).getD 0)), M.2)) := by
          rw [B19_18, iL (by omega) (by omega), if_neg (by omega), B19_24, J4_12, Option.bind_some, pk_sub h1, X10g, Option.bind_some]
          show xruns (O2 L) (zden L (d + 2)) 19 39 [.ref 4, .int (nI w), .int (nI last), .int (nI n), .int (nI i), .int (zget ((va_up M.1 10 ((List.range i).map (fun i => (ear (fitL T Q l) last w i).getD 0)) 10).map nI) (nI (i - 1)) + nI 1)] [] _ = _
          rw [vs, gl, nI_add]
        have en : ear (fitL T Q l) last w i = nxt (fun x => fitL T Q l x i) (v + 1) last := by
          conv => lhs; rw [show i = i - 1 + 1 by omega]; unfold ear
          rw [hv, show i - 1 + 1 = i by omega]; rfl
        by_cases va : v + 1 ≤ last + 1
        · rw [e1, inner (last + 1 - (v + 1)) 0 i (v + 1) _ (by omega) (by omega) (fun j q => by omega) va, B19_65, iL (by have := lead_le (fun j => !fitL T Q l (v + 1 + j) i) (last + 1 - (v + 1)); omega) (by omega)]
          by_cases c : v + 1 + lead (fun j => !fitL T Q l (v + 1 + j) i) (last + 1 - (v + 1)) ≤ last
          · have es : ear (fitL T Q l) last w i = some (v + 1 + lead (fun j => !fitL T Q l (v + 1 + j) i) (last + 1 - (v + 1))) := by
              rw [en]; unfold nxt; rw [if_pos c]
            rw [if_pos c, B19_73, J4_12, Option.bind_some, X10a _ (by show (va_up M.1 10 ((List.range i).map (fun i => (ear (fitL T Q l) last w i).getD 0)) 10).length < 6; rw [vs, List.length_map, List.length_range]; omega), Option.bind_some, nI_add]
            have el : va_up (va_up M.1 10 ((List.range i).map (fun i => (ear (fitL T Q l) last w i).getD 0))) 10 (va_up M.1 10 ((List.range i).map (fun i => (ear (fitL T Q l) last w i).getD 0)) 10 ++ [v + 1 + lead (fun j => !fitL T Q l (v + 1 + j) i) (last + 1 - (v + 1))]) = va_up M.1 10 ((List.range (i + 1)).map (fun i => (ear (fitL T Q l) last w i).getD 0)) := by
              rw [vs, vv, List.range_succ, List.map_append]
              show va_up M.1 10 (_ ++ [_]) = va_up M.1 10 (_ ++ [(ear (fitL T Q l) last w i).getD 0])
              rw [es]; rfl
            obtain ⟨E, g1, g2⟩ := ih (i + 1) (.int (nI (v + 1 + lead (fun j => !fitL T Q l (v + 1 + j) i) (last + 1 - (v + 1))))) (by omega) (by omega) (by rw [Nat.add_sub_cancel, es]; rfl)
            refine ⟨E, ?_, g2⟩
            rw [← g1, ← el]
          · have es : ear (fitL T Q l) last w i = none := by
              rw [en]; unfold nxt; rw [if_neg c]
            have esn : (ear (fitL T Q l) last w (n - 1)).isSome = false := by
              cases hq : (ear (fitL T Q l) last w (n - 1)).isSome with
              | false => rfl
              | true =>
                have := ear_pre (i := i) (by omega) hq
                rw [es] at this; cases this
            refine ⟨(List.range i).map (fun i => (ear (fitL T Q l) last w i).getD 0), ?_, fun q => absurd q (by rw [esn]; decide)⟩
            rw [if_neg c, B19_71, iO0, esn]; rfl
        · have es : ear (fitL T Q l) last w i = none := by
            rw [en]; unfold nxt; rw [if_neg (by omega)]
          have esn : (ear (fitL T Q l) last w (n - 1)).isSome = false := by
            cases hq : (ear (fitL T Q l) last w (n - 1)).isSome with
            | false => rfl
            | true =>
              have := ear_pre (i := i) (by omega) hq
              rw [es] at this; cases this
          refine ⟨(List.range i).map (fun i => (ear (fitL T Q l) last w i).getD 0), ?_, fun q => absurd q (by rw [esn]; decide)⟩
          rw [e1, B19_39, iT (by omega) (by omega), if_pos (by omega), B19_65, iL (by omega) (by omega), if_neg (by omega), B19_71, iO0, esn]; rfl
  obtain ⟨E, g1, g2⟩ := outer (n - 1) 1 .null (by omega) (by omega) rfl
  refine ⟨E, ?_, g2⟩
  rw [N19 _ _ _ _ ob4, B19_0, J4_12, Option.bind_some, X10c, Option.bind_some, J4_12, Option.bind_some, X10a _ (by show (va_up M.1 10 [] 10).length < 6; rw [vs]; decide), Option.bind_some, ← g1]
  have : va_up (va_up M.1 10 []) 10 (va_up M.1 10 [] 10 ++ [w]) = va_up M.1 10 ((List.range 1).map (fun i => (ear (fitL T Q l) last w i).getD 0)) := by
    rw [vs, vv]; rfl
  rw [← this]
theorem x20 {M : CT} {w last : Nat} (hF : FB T Q l lk n 0 (M.1 6)) (h300 : lk ≤ 300) (hw : w < lk) (hl : last < lk) (n1 : 1 ≤ n) (n6 : n ≤ 6) (hs : (ear (fitL T Q l) last w (n - 1)).isSome = true) :
    ∃ E, zden L (d + 4) 20 [.ref 4, .int (nI w), .int (nI last), .int (nI n)] (putM z M) = some (0, putM z (va_up M.1 11 E, M.2)) ∧ E.length = n ∧ ∀ i, 1 ≤ i → i < n → E.getD i 0 = lat (fitL T Q l) last w n (n - i) := by
  have fl : (M.1 6).length ≤ 400 := by rw [hF.1]; omega
  have inner : ∀ (r k i hi : Nat) (E : List Nat), k + r = hi - w → w ≤ hi → hi < lk → i < n → (∀ j, j < k → fitL T Q l (hi - j) i = false) → xruns (O2 L) (zden L (d + 3)) 20 27 [.ref 4, .int (nI w), .int (nI last), .int (nI n), .int (nI (hi - k)), .int (nI i)] [] (putM z (va_up M.1 11 E, M.2)) = xruns (O2 L) (zden L (d + 3)) 20 53 [.ref 4, .int (nI w), .int (nI last), .int (nI n), .int (nI (prv (fun x => fitL T Q l x i) hi w)), .int (nI i)] [] (putM z (va_up M.1 11 E, M.2)) := by
    intro r
    induction r with
    | zero =>
      intro k i hi E hk hwh hlk hin hj
      have : lead (fun j => !fitL T Q l (hi - j) i) (hi - w) = k := lead_eq (by omega) (fun j q => by rw [hj j q]; rfl) (fun q => by omega)
      unfold prv
      rw [B20_27, iL (by omega) (by omega), if_pos (by omega), this]
    | succ r ih =>
      intro k i hi E hk hwh hlk hin hj
      rw [B20_27, iL (by omega) (by omega), if_neg (by omega), B20_33, J4_8, Option.bind_some, X6h (M := (va_up M.1 11 E, M.2)) (by omega) fl (by omega), Option.bind_some]
      show (if bI (((M.1 6).getD (hi - k) 0).testBit i) = nI 0 then _ else _) = _
      rw [fb_at hF (by omega) hin, iB]
      by_cases c : fitL T Q l (hi - k) i = true
      · have : lead (fun j => !fitL T Q l (hi - j) i) (hi - w) = k := lead_eq (by omega) (fun j q => by rw [hj j q]; rfl) (fun q => by rw [c]; rfl)
        unfold prv
        rw [if_pos c, this]
      · rw [if_neg c, B20_47, nI_m1 (by omega), show hi - k - 1 = hi - (k + 1) by omega]
        exact ih (k + 1) i hi E (by omega) hwh hlk hin (fun j hj' => by
          by_cases q : j = k
          · rw [q]; simpa using c
          · exact hj j (by omega))
  have outer : ∀ (i : Nat) (E : List Nat), i < n → E.length = n → (∀ j, i < j → j < n → E.getD j 0 = lat (fitL T Q l) last w n (n - j)) → ∃ E', xruns (O2 L) (zden L (d + 3)) 20 19 [.ref 4, .int (nI w), .int (nI last), .int (nI n), .int (nI (lat (fitL T Q l) last w n (n - 1 - i))), .int (nI i)] [] (putM z (va_up M.1 11 E, M.2)) = some (0, putM z (va_up M.1 11 E', M.2)) ∧ E'.length = n ∧ ∀ i, 1 ≤ i → i < n → E'.getD i 0 = lat (fitL T Q l) last w n (n - i) := by
    intro i
    induction i with
    | zero =>
      intro E hi hE hj
      exact ⟨E, by rw [B20_19, iL (by omega) (by omega), if_pos (Nat.le_refl _), B20_70], hE, fun j h1 h2 => hj j (by omega) h2⟩
    | succ i ih =>
      intro E hi hE hj
      obtain ⟨x, y1, y2, y3, y4⟩ := lat_ge hs (n - (i + 1)) (by omega) (by omega)
      have gx := (ear_ge y1).1
      have hb : 1 ≤ lat (fitL T Q l) last w n (n - 1 - (i + 1)) ∧ lat (fitL T Q l) last w n (n - 1 - (i + 1)) ≤ last + 1 ∧ w + 1 ≤ lat (fitL T Q l) last w n (n - 1 - (i + 1)) := by
        by_cases r0 : n - 1 - (i + 1) = 0
        · rw [r0]
          show 1 ≤ last + 1 ∧ last + 1 ≤ last + 1 ∧ w + 1 ≤ last + 1
          omega
        · obtain ⟨x2, z1, z2, z3, z4⟩ := lat_ge hs (n - 1 - (i + 1)) (by omega) (by omega)
          have := (ear_ge z1).1
          omega
      have eL : lat (fitL T Q l) last w n (n - (i + 1)) = prv (fun x => fitL T Q l x (i + 1)) (lat (fitL T Q l) last w n (n - 1 - (i + 1)) - 1) w := by
        conv => lhs; rw [show n - (i + 1) = n - 1 - (i + 1) + 1 by omega]; unfold lat
        rw [show n - 1 - (n - 1 - (i + 1)) = i + 1 by omega]
      have ls : (E.set (i + 1) (lat (fitL T Q l) last w n (n - (i + 1)))).length = n := by rw [List.length_set, hE]
      obtain ⟨E', g1, g2, g3⟩ := ih (E.set (i + 1) (lat (fitL T Q l) last w n (n - (i + 1)))) (by omega) ls (fun j h1 h2 => by
        by_cases q : j = i + 1
        · subst q
          simp [List.getD, hE, h2]
        · have := hj j (by omega) h2
          simpa [List.getD, List.getElem?_set, Ne.symm q] using this)
      refine ⟨E', ?_, g2, g3⟩
      have i2 := inner (lat (fitL T Q l) last w n (n - 1 - (i + 1)) - 1 - w) 0 (i + 1) (lat (fitL T Q l) last w n (n - 1 - (i + 1)) - 1) E (by omega) (by omega) (by omega) hi (fun j q => by omega)
      rw [Nat.sub_zero] at i2
      rw [B20_19, iL (by omega) (by omega), if_neg (by omega), B20_24, nI_m1 hb.1, i2, ← eL, B20_53, J4_13, Option.bind_some, X11w (M := (va_up M.1 11 E, M.2)) (by show i + 1 < (va_up M.1 11 E 11).length; rw [vs, hE]; exact hi) (by show (va_up M.1 11 E 11).length ≤ 400; rw [vs, hE]; omega), Option.bind_some, nI_m1 (by omega), Nat.add_sub_cancel]
      show xruns (O2 L) (zden L (d + 3)) 20 19 [.ref 4, .int (nI w), .int (nI last), .int (nI n), .int (nI (lat (fitL T Q l) last w n (n - (i + 1)))), .int (nI i)] [] (putM z (va_up (va_up M.1 11 E) 11 ((va_up M.1 11 E 11).set (i + 1) (lat (fitL T Q l) last w n (n - (i + 1)))), M.2)) = _
      rw [vs, vv, ← g1, show n - 1 - i = n - (i + 1) by omega]
  obtain ⟨E, g1, g2, g3⟩ := outer (n - 1) (List.replicate n w) (by omega) (by simp) (fun j h1 h2 => by omega)
  refine ⟨E, ?_, g2, g3⟩
  rw [N20 _ _ _ _ ob4, B20_0, J4_13, Option.bind_some, X11f n6, Option.bind_some, nI_add, pk_sub n1, ← g1, show n - 1 - (n - 1) = 0 by omega]
  rfl
end
