/-! calls follow each other; and the law's run may be looked at with the script at 0 and the first new cell at 1 -/
section
variable {Hp1 Hp2 : Type} {f : Nat → Nat} {S : Hp1 → Hp2 → Prop} {O1' : xOps Hp1} {O2' : xOps Hp2}
theorem xrc_map (hi : ∀ h g a c, S h g → O2'.2.2.2.2.2.2.2.2 g a c = true → O1'.2.2.2.2.2.2.2.2 h (f a) c = true) {m : Nat} {as : List Value} {h : Hp1} {g : Hp2} (hS : S h g) (e : xrc O2' m as g = true) : xrc O1' m (as.map (xrn f)) h = true := by
  simp only [xrc, Bool.and_eq_true] at e ⊢
  refine ⟨⟨by rw [xcat_map]; exact e.1.1, by rw [List.length_map]; exact e.1.2⟩, ?_⟩
  have e2 := e.2
  cases hst : xst m with
  | true => rfl
  | false =>
    rw [hst] at e2
    cases as with
    | nil => cases e2
    | cons v as =>
      cases v with
      | ref a => exact hi _ _ _ _ hS e2
      | _ => cases e2
theorem xsim_den (hO : xOS f S O1' O2') (hi : ∀ h g a c, S h g → O2'.2.2.2.2.2.2.2.2 g a c = true → O1'.2.2.2.2.2.2.2.2 h (f a) c = true)
    {pr1 : Nat → Nat → List Value → Hp1 → Option (Option (Int32 × Hp1))} {pr2 : Nat → Nat → List Value → Hp2 → Option (Option (Int32 × Hp2))}
    (hp : ∀ d m as h g r g', S h g → pr2 d m as g = some (some (r, g')) → ∃ h', xden O1' pr1 d m (as.map (xrn f)) h = some (r, h') ∧ S h' g')
    (hq : ∀ d m as h g, S h g → pr2 d m as g = none → pr1 d m (as.map (xrn f)) h = none) :
    ∀ (d m : Nat) (as : List Value) (h : Hp1) (g : Hp2) (r : Int32) (g' : Hp2), S h g → xden O2' pr2 d m as g = some (r, g') → ∃ h', xden O1' pr1 d m (as.map (xrn f)) h = some (r, h') ∧ S h' g' := by
  intro d
  induction d with
  | zero => intro m as h g r g' hS e; cases e
  | succ d ih =>
    intro m as h g r g' hS e
    cases hpr : pr2 (d + 1) m as g with
    | some o =>
      have e2 : o = some (r, g') := by
        simp only [xden, hpr] at e
        exact e
      subst e2
      exact hp (d + 1) m as h g r g' hS hpr
    | none =>
      have e2 : (bif xrc O2' m as g then xruns O2' (xden O2' pr2 d) m 0 (as ++ List.replicate (xmx m - as.length) .null) [] g else none) = some (r, g') := by
        simp only [xden, hpr] at e
        exact e
      cases hrc : xrc O2' m as g with
      | false => rw [hrc] at e2; cases e2
      | true =>
        rw [hrc, cond_true] at e2
        obtain ⟨h', h1, h2⟩ := xsim_runs hO (fun m as h g r g' hS e => ih m as h g r g' hS e) hS e2
        refine ⟨h', ?_, h2⟩
        have hpr1 := hq (d + 1) m as h g hS hpr
        simp only [xden, hpr1]
        rw [xrc_map hi hS hrc, cond_true, List.length_map]
        rw [List.map_append, List.map_replicate] at h1
        exact h1
end
/-- the renaming -/
def xro (base b : Nat) (k : Nat) : Nat := if k = 0 then b else base + (k - 1)
def xrE (f : Nat → Nat) (e : xE) : xE := match e with
  | .inl a => .inl a
  | .inr (c, fs) => .inr (c, fs.map (xrn f))
def xRS (base b : Nat) (h g : xH) : Prop := (∀ k e, g.1 k = some e → k < g.2.1 ∧ h.1 (xro base b k) = some (xrE (xro base b) e)) ∧ 1 ≤ g.2.1 ∧ h.2.1 + 1 = base + g.2.1 ∧ h.2.2 = g.2.2 ∧ b < base
theorem xro_inj {base b k j : Nat} (hb : b < base) (h : xro base b k = xro base b j) : k = j := by
  unfold xro at h
  split at h <;> split at h <;> omega
theorem xdf_map (f : Nat → Nat) {c : Nat} (hc : c ≤ 8) : (xdf c).map (xrn f) = xdf c := by
  match c, hc with
  | 0, _ => rfl
  | 1, _ => rfl
  | 2, _ => rfl
  | 3, _ => rfl
  | 4, _ => rfl
  | 5, _ => rfl
  | 6, _ => rfl
  | 7, _ => rfl
  | 8, _ => rfl
theorem xRS_up {base b : Nat} {h g : xH} (hS : xRS base b h g) {a : Nat} {e e' : xE} (ha : g.1 a = some e) : xRS base b (va_up h.1 (xro base b a) (some (xrE (xro base b) e')), h.2) (va_up g.1 a (some e'), g.2) := by
  obtain ⟨h1, h2, h3, h4, h5⟩ := hS
  refine ⟨fun k x hk => ?_, h2, h3, h4, h5⟩
  by_cases hka : k = a
  · subst hka
    rw [show (va_up g.1 k (some e'), g.2).1 k = some e' from va_up_self _ _ _] at hk
    cases hk
    exact ⟨(h1 k e ha).1, va_up_self _ _ _⟩
  · rw [show (va_up g.1 a (some e'), g.2).1 k = g.1 k from va_up_ne _ _ hka] at hk
    refine ⟨(h1 k x hk).1, ?_⟩
    rw [show (va_up h.1 (xro base b a) (some (xrE (xro base b) e')), h.2).1 (xro base b k) = h.1 (xro base b k) from va_up_ne _ _ (fun q => hka (xro_inj h5 q))]
    exact (h1 k x hk).2
theorem xRS_new {base b z : Nat} {h g : xH} (hS : xRS base b h g) {e : xE} : h.2.1 = xro base b g.2.1 ∧ xRS base b (va_up h.1 h.2.1 (some (xrE (xro base b) e)), h.2.1 + 1, h.2.2 + z) (va_up g.1 g.2.1 (some e), g.2.1 + 1, g.2.2 + z) := by
  obtain ⟨h1, h2, h3, h4, h5⟩ := hS
  have hr : h.2.1 = xro base b g.2.1 := by unfold xro; rw [if_neg (by omega)]; omega
  refine ⟨hr, fun k x hk => ?_, by show 1 ≤ g.2.1 + 1; omega, by show h.2.1 + 1 + 1 = base + (g.2.1 + 1); omega, by show h.2.2 + z = g.2.2 + z; omega, h5⟩
  by_cases hka : k = g.2.1
  · subst hka
    rw [show (va_up g.1 g.2.1 (some e), g.2.1 + 1, g.2.2 + z).1 g.2.1 = some e from va_up_self _ _ _] at hk
    cases hk
    refine ⟨Nat.lt_succ_self _, ?_⟩
    rw [← hr]
    exact va_up_self _ _ _
  · rw [show (va_up g.1 g.2.1 (some e), g.2.1 + 1, g.2.2 + z).1 k = g.1 k from va_up_ne _ _ hka] at hk
    refine ⟨Nat.lt_succ_of_lt (h1 k x hk).1, ?_⟩
    rw [show (va_up h.1 h.2.1 (some (xrE (xro base b) e)), h.2.1 + 1, h.2.2 + z).1 (xro base b k) = h.1 (xro base b k) from va_up_ne _ _ (fun q => hka (xro_inj h5 (q.trans hr)))]
    exact (h1 k x hk).2
theorem xRS_ops (base b : Nat) : xOS (xro base b) (xRS base b) O1 O1 := by
  refine ⟨?_, ?_, ?_, ?_, ?_, ?_, ?_, ?_⟩
  · intro h g a c k x hS e
    obtain ⟨fs, e1, e2⟩ := o1I_some e
    have h1 := (hS.1 a _ e1).2
    show o1I h _ c k = some x
    unfold o1I
    rw [h1]
    simp only [xrE, Nat.beq_refl, cond_true, List.getElem?_map, e2, Option.map_some, xrn]
  · intro h g a c k x hS e
    obtain ⟨fs, e1, e2⟩ := o1R_some e
    have h1 := (hS.1 a _ e1).2
    show o1R h _ c k = some _
    unfold o1R
    rw [h1]
    simp only [xrE, Nat.beq_refl, cond_true, List.getElem?_map, e2, Option.map_some, xrn]
  · intro h g a c k v g' hS e
    obtain ⟨fs, e1, e2, rfl⟩ := o1P_some e
    have h1 := (hS.1 a _ e1).2
    refine ⟨_, ?_, xRS_up hS e1⟩
    show o1P h _ c k _ = some _
    unfold o1P
    rw [h1]
    have hl : Nat.blt k (fs.map (xrn (xro base b))).length = true := by rw [List.length_map]; exact Nat.ble_eq_true_of_le e2
    simp only [xrE, Nat.beq_refl, Bool.true_and, hl, cond_true, List.map_set]
  · intro h g c w hS e
    replace e : o1N g c = some w := e
    unfold o1N at e
    cases hb : Nat.ble c 8 with
    | false => rw [hb] at e; cases e
    | true =>
      rw [hb] at e
      cases e
      have hc := Nat.le_of_ble_eq_true hb
      obtain ⟨n1, n2⟩ := xRS_new (z := xN c) (e := .inr (c, xdf c)) hS
      refine ⟨_, ?_, n2⟩
      show o1N h c = some _
      unfold o1N
      rw [hb, cond_true, n1]
      simp only [xrE, xdf_map _ hc]
  · intro h g t n w hS e
    replace e : o1A g t n = some w := e
    unfold o1A at e
    split at e
    · cases e
    · next hn =>
      cases e
      obtain ⟨n1, n2⟩ := xRS_new (z := n.toNatClampNeg) (e := .inl (t, n.toNatClampNeg, fun _ => 0)) hS
      refine ⟨_, ?_, n2⟩
      show o1A h t n = some _
      unfold o1A
      rw [if_neg hn, n1]
      rfl
  · intro h g t a i x hS e
    obtain ⟨t', n, f, e1, e2, e3, rfl⟩ := o1L_some e
    have h1 := (hS.1 a _ e1).2
    show o1L h t _ i = some _
    unfold o1L
    rw [h1]
    simp only [xrE]
    rw [if_pos ⟨e2, e3⟩]
  · intro h g t a i x g' hS e
    obtain ⟨n, f, e1, e3, rfl⟩ := o1S_some e
    have h1 := (hS.1 a _ e1).2
    refine ⟨_, ?_, xRS_up hS e1⟩
    show o1S h t _ i x = some _
    unfold o1S
    rw [h1]
    simp only [xrE]
    rw [if_pos ⟨trivial, e3⟩]
  · intro h g a x hS e
    obtain ⟨t, n, f, e1, rfl⟩ := o1len_some e
    have h1 := (hS.1 a _ e1).2
    show o1len h _ = some _
    unfold o1len
    rw [h1]
    rfl
/-- THE LAW's RUN, moved -/
theorem xreloc {base b L : Nat} {xs : Nat → Int32} (hb : b < base) {g' : xH} (e : xruns O1 (xden O1 xnp 9) 164 0 [.ref 0, .null, .null, .null] [] (xh0 1 0 L xs) = some (1, g')) :
    ∃ h', xruns O1 (xden O1 xnp 9) 164 0 [.ref b, .null, .null, .null] [] (xh0 base b L xs) = some (1, h') ∧ h'.2.1 + 1 = base + g'.2.1 ∧ h'.2.2 = g'.2.2 := by
  have hi : ∀ h g a c, xRS base b h g → O1.2.2.2.2.2.2.2.2 g a c = true → O1.2.2.2.2.2.2.2.2 h (xro base b a) c = true := by
    intro h g a c hS e
    obtain ⟨fs, e1⟩ := o1O_some (h := g) e
    have h1 := (hS.1 a _ e1).2
    show o1O h _ c = true
    unfold o1O
    rw [h1]
    simp only [xrE, Nat.beq_refl]
  have hS0 : xRS base b (xh0 base b L xs) (xh0 1 0 L xs) := by
    refine ⟨fun k e he => ?_, Nat.le_refl _, rfl, rfl, hb⟩
    replace he : (if k = 0 then some (Sum.inl (2, L, xs)) else none) = some e := he
    split at he
    · next q =>
      cases he
      subst q
      refine ⟨Nat.zero_lt_one, ?_⟩
      show (if xro base b 0 = b then some (Sum.inl (2, L, xs)) else none) = _
      rw [if_pos (show xro base b 0 = b from rfl)]
      rfl
    · cases he
  obtain ⟨h', h1, h2⟩ := xsim_runs (xRS_ops base b) (fun m as h g r g' hS e => xsim_den (pr1 := xnp) (pr2 := xnp) (xRS_ops base b) hi (fun d m as h g r g' hS e => by cases e) (fun d m as h g hS e => rfl) 9 m as h g r g' hS e) hS0 e
  exact ⟨h', h1, h2.2.2.1, h2.2.2.2.1⟩
