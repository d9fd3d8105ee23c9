/-! level 2 is followed by level 1 -/
theorem xrn_id : (xrn fun a => a) = id := by
  funext v
  cases v <;> rfl
theorem xrn_ids (l : List Value) : l.map (xrn fun a => a) = l := by rw [xrn_id, List.map_id]
def zal (n mo : Nat) : Nat := if n < mo then 2 * n else 3 * n
/-- a row in the heap -/
def zRow (h : xH) (a w n : Nat) (xs : List Int32) : Prop := ∃ f, h.1 a = some (.inr (4, [.int (nI (zmo a)), .ref w, .int (nI xs.length)])) ∧ h.1 w = some (.inl (0, n, f)) ∧ xs.length ≤ n ∧ xs.length ≤ zmo a ∧ 8 ≤ n ∧ (n = 8 ∨ n ≤ zmo a) ∧ ∀ (i : Nat) (hi : i < xs.length), f i = xs[i]
def zSim (L : Nat) (h : xH) (z : zS) : Prop := ∃ own cap : Nat → Nat,
  (∀ a, zrow a = true → zRow h a (own a) (cap a) (z.1 a)) ∧
  (∀ a b, zrow a = true → zrow b = true → own a = own b → a = b) ∧
  (∀ a, zrow a = true → (lkd (own a)).1 = 0 ∧ own a ≠ 0) ∧
  (∀ a c, zob a c = true → h.1 a = some (.inr (c, zmk z a))) ∧
  (∀ a t, zar a t = true → h.1 a = some (.inl (t, zln a, z.2.2.1 a))) ∧
  h.1 0 = some (.inl (2, L, z.2.2.1 0)) ∧
  ((∀ a, h.1 a ≠ none → a < h.2.1) ∧ 189 < h.2.1 ∧ h.2.1 ≤ 190 + (zRL.map cap).sum ∧ h.2.2 ≤ 25279 + (zRL.map (fun a => zal (cap a) (zmo a))).sum)
theorem zob_k {a c : Nat} (h : zob a c = true) : (lkd a).1 = 1 ∧ (lkd a).2.1 = c := by
  simp only [zob, Bool.and_eq_true] at h
  exact ⟨Nat.eq_of_beq_eq_true h.1, Nat.eq_of_beq_eq_true h.2⟩
theorem zrow_k {a : Nat} (h : zrow a = true) : (lkd a).1 = 2 := Nat.eq_of_beq_eq_true h
theorem zar_k {a t : Nat} (h : zar a t = true) : (lkd a).1 = 3 ∧ (lkd a).2.1 = t := by
  simp only [zar, Bool.and_eq_true] at h
  exact ⟨Nat.eq_of_beq_eq_true h.1, Nat.eq_of_beq_eq_true h.2⟩
theorem lkd_0 : lkd 0 = (0, 0, 0) := by decide +kernel
theorem zbuild_get (z : zS) (a : Nat) (l : List (Nat × Nat)) : ∀ k f, (zbuild z a k l)[f]? = if f < l.length then some (bif Nat.beq (znth l f).1 0 then Value.int (z.2.1 a (k + f)) else bif Nat.beq (znth l f).1 1 then .ref (znth l f).2 else .ref (z.2.2.2 a (k + f))) else none := by
  induction l with
  | nil => intro k f; simp [zbuild]
  | cons t l ih =>
    intro k f
    cases f with
    | zero => simp [zbuild, znth]
    | succ f =>
      simp only [zbuild, List.getElem?_cons_succ, ih, znth, List.length_cons, Nat.add_lt_add_iff_right]
      rw [show k + 1 + f = k + (f + 1) by omega]
theorem zbuild_len (z : zS) (a : Nat) (l : List (Nat × Nat)) : ∀ k, (zbuild z a k l).length = l.length := by
  induction l with
  | nil => intro k; rfl
  | cons t l ih => intro k; simp [zbuild, ih]
theorem znth_lt {l : List (Nat × Nat)} {f : Nat} (h : (znth l f).1 ≠ 9) : f < l.length := by
  induction l generalizing f with
  | nil => exact absurd rfl h
  | cons v l ih =>
    cases f with
    | zero => simp
    | succ f => have := ih (f := f) h; simp; exact this
/-- other fields, other objects -/
theorem zmk_same {z z' : zS} {a : Nat} (h1 : ∀ f, z'.2.1 a f = z.2.1 a f) (h2 : ∀ f, z'.2.2.2 a f = z.2.2.2 a f) : zmk z' a = zmk z a := by
  apply List.ext_getElem?
  intro f
  unfold zmk
  rw [zbuild_get, zbuild_get]
  simp only [h1, h2]
theorem zmk_int {z : zS} {a f : Nat} {x : Int32} (ht : (znth (ztag a) f).1 = 0) : zmk (z.1, zup z.2.1 a f x, z.2.2) a = (zmk z a).set f (.int x) := by
  have hf := znth_lt (l := ztag a) (f := f) (by rw [ht]; decide)
  apply List.ext_getElem?
  intro g
  unfold zmk
  rw [List.getElem?_set, zbuild_get, zbuild_get, zbuild_len]
  by_cases hg : f = g
  · subst hg
    simp only [hf, if_true, ht, Nat.zero_add]
    simp [zup]
  · simp only [if_neg hg]
    by_cases hl : g < (ztag a).length
    · simp only [hl, if_true, Nat.zero_add]
      have : zup z.2.1 a f x a g = z.2.1 a g := by simp [zup]; intro q; exact absurd q.symm hg
      rw [this]
    · simp only [hl, if_false]
theorem zmk_ref {z : zS} {a f b : Nat} (ht : (znth (ztag a) f).1 = 2) : zmk (z.1, z.2.1, z.2.2.1, zup z.2.2.2 a f b) a = (zmk z a).set f (.ref b) := by
  have hf := znth_lt (l := ztag a) (f := f) (by rw [ht]; decide)
  apply List.ext_getElem?
  intro g
  unfold zmk
  rw [List.getElem?_set, zbuild_get, zbuild_get, zbuild_len]
  by_cases hg : f = g
  · subst hg
    simp only [hf, if_true, ht, Nat.zero_add, show Nat.beq 2 0 = false from rfl, show Nat.beq 2 1 = false from rfl, cond_false]
    simp [zup]
  · simp only [if_neg hg]
    by_cases hl : g < (ztag a).length
    · simp only [hl, if_true, Nat.zero_add]
      have : zup z.2.2.2 a f b a g = z.2.2.2 a g := by simp [zup]; intro q; exact absurd q.symm hg
      rw [this]
    · simp only [hl, if_false]
/-- a visible cell that is no row is changed, the rows stay -/
theorem zRow_kept {h h' : xH} {a w n : Nat} {xs : List Int32} (r : zRow h a w n xs) (h1 : h'.1 a = h.1 a) (h2 : h'.1 w = h.1 w) : zRow h' a w n xs := by
  obtain ⟨f, r1, r2, r3⟩ := r
  exact ⟨f, by rw [h1]; exact r1, by rw [h2]; exact r2, r3⟩
theorem zSim_obj {L : Nat} {h : xH} {z z' : zS} {a c : Nat} (hS : zSim L h z) (ha : zob a c = true) (hR : z'.1 = z.1) (hA : z'.2.2.1 = z.2.2.1) (ho : ∀ b, b ≠ a → zmk z' b = zmk z b) : zSim L (va_up h.1 a (some (.inr (c, zmk z' a))), h.2) z' := by
  obtain ⟨own, cap, s1, s2, s3, s4, s5, s6, s7, s8, s9, s10⟩ := hS
  have hk := zob_k ha
  have ne : ∀ b, (lkd b).1 ≠ 1 → b ≠ a := fun b hb q => hb (by rw [q]; exact hk.1)
  refine ⟨own, cap, fun b hb => ?_, s2, s3, fun b c' hb => ?_, fun b t hb => ?_, ?_, fun b hb => ?_, s8, s9, s10⟩
  · have e1 : b ≠ a := ne b (by rw [zrow_k hb]; decide)
    have e2 : own b ≠ a := ne _ (by rw [(s3 b hb).1]; decide)
    rw [hR]
    exact zRow_kept (s1 b hb) (va_up_ne _ _ e1) (va_up_ne _ _ e2)
  · by_cases hba : b = a
    · subst hba
      have : c' = c := by rw [← (zob_k hb).2, hk.2]
      subst this
      exact va_up_self _ _ _
    · show va_up h.1 a _ b = _
      rw [va_up_ne _ _ hba, s4 b c' hb, ho b hba]
  · show va_up h.1 a _ b = _
    rw [va_up_ne _ _ (ne b (by rw [(zar_k hb).1]; decide)), s5 b t hb, hA]
  · show va_up h.1 a _ 0 = _
    rw [va_up_ne _ _ (ne 0 (by rw [lkd_0]; decide)), s6, hA]
  · by_cases hba : b = a
    · subst hba
      exact s7 b (by rw [s4 b c ha]; intro q; cases q)
    · exact s7 b (by rw [show (va_up h.1 a (some (Sum.inr (c, zmk z' a))), h.2).1 b = h.1 b from va_up_ne _ _ hba] at hb; exact hb)
theorem zSim_ops (L : Nat) : xOS (fun a => a) (zSim L) O1 (O2 L) := by
  refine ⟨?_, ?_, ?_, ?_, ?_, ?_, ?_, ?_⟩
  · intro h z a c f x hS e
    replace e : o2I z a c f = some x := e
    unfold o2I at e
    cases hb : (zob a c && Nat.beq (znth (ztag a) f).1 0) with
    | false => rw [hb] at e; cases e
    | true =>
      rw [hb] at e
      cases e
      simp only [Bool.and_eq_true] at hb
      obtain ⟨own, cap, s1, s2, s3, s4, -⟩ := hS
      show o1I h a c f = _
      unfold o1I
      rw [s4 a c hb.1]
      have hz := Nat.eq_of_beq_eq_true hb.2
      have hf := znth_lt (l := ztag a) (f := f) (by rw [hz]; decide)
      simp only [Nat.beq_refl, cond_true, zmk, zbuild_get, hf, if_true, hz, Nat.zero_add]
  · intro h z a c f x hS e
    replace e : o2R z a c f = some x := e
    unfold o2R at e
    cases hb : zob a c with
    | false => rw [hb] at e; cases e
    | true =>
      rw [hb] at e
      simp only [cond_true] at e
      obtain ⟨own, cap, s1, s2, s3, s4, -⟩ := hS
      show o1R h a c f = _
      unfold o1R
      rw [s4 a c hb]
      cases h1 : Nat.beq (znth (ztag a) f).1 1 with
      | true =>
        rw [h1] at e
        cases e
        have hz := Nat.eq_of_beq_eq_true h1
        have hf := znth_lt (l := ztag a) (f := f) (by rw [hz]; decide)
        simp only [Nat.beq_refl, cond_true, zmk, zbuild_get, hf, if_true, hz, show Nat.beq 1 0 = false from rfl, cond_false]
      | false =>
        rw [h1] at e
        simp only [cond_false] at e
        cases h2 : Nat.beq (znth (ztag a) f).1 2 with
        | false => rw [h2] at e; cases e
        | true =>
          rw [h2] at e
          cases e
          have hz := Nat.eq_of_beq_eq_true h2
          have hf := znth_lt (l := ztag a) (f := f) (by rw [hz]; decide)
          simp only [Nat.beq_refl, cond_true, zmk, zbuild_get, hf, if_true, hz, show Nat.beq 2 0 = false from rfl, show Nat.beq 2 1 = false from rfl, cond_false, Nat.zero_add]
  · intro h z a c f v z' hS e
    replace e : o2P z a c f v = some z' := e
    unfold o2P at e
    cases hb : zob a c with
    | false => rw [hb] at e; cases e
    | true =>
      rw [hb] at e
      simp only [cond_true] at e
      have hh : h.1 a = some (.inr (c, zmk z a)) := by
        obtain ⟨own, cap, s1, s2, s3, s4, -⟩ := hS
        exact s4 a c hb
      have hput : ∀ v, f < (ztag a).length → o1P h a c f v = some (va_up h.1 a (some (.inr (c, (zmk z a).set f v))), h.2) := by
        intro v hf
        unfold o1P
        rw [hh]
        have hl : Nat.blt f (zmk z a).length = true := by unfold zmk; rw [zbuild_len]; exact Nat.ble_eq_true_of_le hf
        simp only [Nat.beq_refl, hl, Bool.true_and, cond_true]
      cases v with
      | int x =>
        simp only at e
        cases h1 : Nat.beq (znth (ztag a) f).1 0 with
        | false => rw [h1] at e; cases e
        | true =>
          rw [h1] at e
          cases e
          have hz := Nat.eq_of_beq_eq_true h1
          have hf := znth_lt (l := ztag a) (f := f) (by rw [hz]; decide)
          refine ⟨_, hput (.int x) hf, ?_⟩
          rw [← zmk_int hz]
          exact zSim_obj hS hb rfl rfl (fun b hba => zmk_same (fun g => by simp [zup, hba]) (fun g => rfl))
      | ref b =>
        simp only at e
        cases h1 : Nat.beq (znth (ztag a) f).1 2 with
        | false => rw [h1] at e; cases e
        | true =>
          rw [h1] at e
          cases e
          have hz := Nat.eq_of_beq_eq_true h1
          have hf := znth_lt (l := ztag a) (f := f) (by rw [hz]; decide)
          refine ⟨_, hput (.ref b) hf, ?_⟩
          rw [← zmk_ref hz]
          exact zSim_obj hS hb rfl rfl (fun b' hba => zmk_same (fun g => rfl) (fun g => by simp [zup, hba]))
      | _ => cases e
  · intro h z c w hS e; cases e
  · intro h z t n w hS e; cases e
  · intro h z t a i x hS e
    obtain ⟨own, cap, s1, s2, s3, s4, s5, s6, -⟩ := hS
    replace e : o2L L z t a i = some x := e
    unfold o2L at e
    show o1L h t a i = _
    unfold o1L
    cases h0 : Nat.beq a 0 with
    | true =>
      have ha := Nat.eq_of_beq_eq_true h0
      subst ha
      rw [h0] at e
      cases ht : Nat.beq t 0 with
      | false => rw [ht] at e; cases e
      | true =>
        rw [ht] at e
        simp only [cond_true] at e
        split at e
        · next hi =>
          cases e
          rw [s6]
          simp only
          rw [if_pos ⟨Or.inr ⟨trivial, Nat.eq_of_beq_eq_true ht⟩, hi⟩]
        · cases e
    | false =>
      rw [h0] at e
      simp only [cond_false] at e
      cases hb : zar a t with
      | false => rw [hb] at e; cases e
      | true =>
        rw [hb] at e
        simp only [cond_true] at e
        split at e
        · next hi =>
          cases e
          rw [s5 a t hb]
          simp only
          rw [if_pos ⟨Or.inl trivial, hi⟩]
        · cases e
  · intro h z t a i x z' hS e
    replace e : o2S z t a i x = some z' := e
    unfold o2S at e
    cases hb : zar a t with
    | false => rw [hb] at e; cases e
    | true =>
      rw [hb] at e
      simp only [cond_true] at e
      split at e
      · next hi =>
        cases e
        obtain ⟨own, cap, s1, s2, s3, s4, s5, s6, s7, s8, s9, s10⟩ := hS
        have hk := zar_k hb
        have ne : ∀ b, (lkd b).1 ≠ 3 → b ≠ a := fun b hb q => hb (by rw [q]; exact hk.1)
        refine ⟨(va_up h.1 a (some (.inl (t, zln a, upd (z.2.2.1 a) i.toNatClampNeg x))), h.2), ?_, own, cap, fun b hb' => ?_, s2, s3, fun b c' hb' => ?_, fun b t' hb' => ?_, ?_, fun b hb' => ?_, s8, s9, s10⟩
        · show o1S h t a i x = _
          unfold o1S
          rw [s5 a t hb]
          simp only
          rw [if_pos ⟨trivial, hi⟩]
        · have e1 : b ≠ a := ne b (by rw [zrow_k hb']; decide)
          have e2 : own b ≠ a := ne _ (by rw [(s3 b hb').1]; decide)
          exact zRow_kept (s1 b hb') (va_up_ne _ _ e1) (va_up_ne _ _ e2)
        · show va_up h.1 a _ b = _
          rw [va_up_ne _ _ (ne b (by rw [(zob_k hb').1]; decide)), s4 b c' hb', zmk_same (z := z) (z' := (z.1, z.2.1, zup z.2.2.1 a i.toNatClampNeg x, z.2.2.2)) (fun g => rfl) (fun g => rfl)]
        · by_cases hba : b = a
          · subst hba
            have : t' = t := by rw [← (zar_k hb').2, hk.2]
            subst this
            show va_up h.1 b _ b = _
            rw [va_up_self]
            congr 4
            funext j
            simp only [upd, zup]
            by_cases hj : j = i.toNatClampNeg <;> simp [hj]
          · show va_up h.1 a _ b = _
            rw [va_up_ne _ _ hba, s5 b t' hb']
            congr 4
            funext j
            simp [zup, hba]
        · show va_up h.1 a _ 0 = _
          have h0 : 0 ≠ a := ne 0 (by rw [lkd_0]; decide)
          rw [va_up_ne _ _ h0, s6]
          congr 4
          funext j
          simp [zup, h0]
        · by_cases hba : b = a
          · subst hba
            exact s7 b (by rw [s5 b t hb]; intro q; cases q)
          · exact s7 b (by rw [show (va_up h.1 a (some (Sum.inl (t, zln a, upd (z.2.2.1 a) i.toNatClampNeg x))), h.2).1 b = h.1 b from va_up_ne _ _ hba] at hb'; exact hb')
      · cases e
  · intro h z a x hS e
    obtain ⟨own, cap, s1, s2, s3, s4, s5, s6, -⟩ := hS
    replace e : o2len L z a = some x := e
    unfold o2len at e
    show o1len h a = _
    unfold o1len
    cases h0 : Nat.beq a 0 with
    | true =>
      have ha := Nat.eq_of_beq_eq_true h0
      subst ha
      rw [h0] at e
      cases e
      rw [s6]
    | false =>
      rw [h0] at e
      simp only [cond_false] at e
      cases hb : Nat.beq (lkd a).1 3 with
      | false => rw [hb] at e; cases e
      | true =>
        rw [hb] at e
        cases e
        rw [s5 a (lkd a).2.1 (by simp only [zar, hb, Nat.beq_refl, Bool.and_self])]
theorem zSim_O {L : Nat} {h : xH} {z : zS} {a c : Nat} (hS : zSim L h z) (e : o2O z a c = true) : o1O h a c = true := by
  obtain ⟨own, cap, s1, s2, s3, s4, -⟩ := hS
  unfold o2O at e
  unfold o1O
  cases hc : Nat.beq c 4 with
  | true =>
    rw [hc] at e
    obtain ⟨f, r1, -⟩ := s1 a e
    rw [r1, Nat.eq_of_beq_eq_true hc]
    rfl
  | false =>
    rw [hc] at e
    rw [s4 a c e]
    exact Nat.beq_refl c
