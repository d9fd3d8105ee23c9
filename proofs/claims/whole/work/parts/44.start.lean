/-! THE START: the constructors run by computation over a list of cells (arrays all 0) -/
abbrev lH : Type := List ((Nat × Nat) ⊕ (Nat × List Value)) × Nat
def lnth {α : Type} : List α → Nat → Option α
  | [], _ => none
  | v :: _, 0 => some v
  | _ :: l, n + 1 => lnth l n
def lcell (g : lH) (a : Nat) : Option ((Nat × Nat) ⊕ (Nat × List Value)) := match a with
  | 0 => none
  | k + 1 => lnth g.1 k
def olI (g : lH) (a c f : Nat) : Option Int32 := match lcell g a with
  | some (.inr (c', fs)) => bif Nat.beq c' c then (match lnth fs f with
    | some (.int x) => some x
    | _ => none) else none
  | _ => none
def olR (g : lH) (a c f : Nat) : Option Nat := match lcell g a with
  | some (.inr (c', fs)) => bif Nat.beq c' c then (match lnth fs f with
    | some (.ref x) => some x
    | _ => none) else none
  | _ => none
def olP (g : lH) (a c f : Nat) (v : Value) : Option lH := match lcell g a with
  | some (.inr (c', fs)) => bif Nat.beq c' c && Nat.blt f fs.length then some (g.1.set (a - 1) (.inr (c', fs.set f v)), g.2) else none
  | _ => none
def olN (g : lH) (c : Nat) : Option (Nat × lH) := bif Nat.ble c 8 then some (g.1.length + 1, g.1 ++ [.inr (c, xdf c)], g.2 + xN c) else none
def olA (g : lH) (t : Nat) (n : Int32) : Option (Nat × lH) := if n < 0 ∨ 100000 < n.toNatClampNeg then none else some (g.1.length + 1, g.1 ++ [.inl (t, n.toNatClampNeg)], g.2 + n.toNatClampNeg)
def olL (g : lH) (t a : Nat) (i : Int32) : Option Int32 := match lcell g a with
  | some (.inl (t', n)) => if t' = t ∧ ¬ (i < 0 ∨ n ≤ i.toNatClampNeg) then some 0 else none
  | _ => none
def olS (g : lH) (t a : Nat) (i x : Int32) : Option lH := match lcell g a with
  | some (.inl (t', n)) => if (t' = t ∧ ¬ (i < 0 ∨ n ≤ i.toNatClampNeg)) ∧ x = 0 then some g else none
  | _ => none
def ollen (g : lH) (a : Nat) : Option Int32 := match lcell g a with
  | some (.inl (_, n)) => some (Int32.ofNat n)
  | _ => none
def olO (g : lH) (a c : Nat) : Bool := match lcell g a with
  | some (.inr (c', _)) => Nat.beq c' c
  | _ => false
def OL : xOps lH := (olI, olR, olP, olN, olA, olL, olS, ollen, olO)
def lE (e : (Nat × Nat) ⊕ (Nat × List Value)) : xE := match e with
  | .inl (t, n) => .inl (t, n, fun _ => 0)
  | .inr o => .inr o
def lSim (L : Nat) (xs : Nat → Int32) (h : xH) (g : lH) : Prop := h.1 = (fun a => match a with
  | 0 => some (.inl (2, L, xs))
  | k + 1 => (lnth g.1 k).map lE) ∧ h.2.1 = g.1.length + 1 ∧ h.2.2 = g.2
theorem lnth_eq {α : Type} (l : List α) (k : Nat) : lnth l k = l[k]? := by
  induction l generalizing k with
  | nil => rfl
  | cons v l ih =>
    cases k with
    | zero => rfl
    | succ k => simp [lnth, ih]
theorem lSim_get {L : Nat} {xs : Nat → Int32} {h : xH} {g : lH} (hS : lSim L xs h g) {a : Nat} {e : (Nat × Nat) ⊕ (Nat × List Value)} (he : lcell g a = some e) : h.1 a = some (lE e) := by
  rw [hS.1]
  cases a with
  | zero => cases he
  | succ k =>
    replace he : lnth g.1 k = some e := he
    simp only [he, Option.map_some]
theorem lSim_set {L : Nat} {xs : Nat → Int32} {h : xH} {g : lH} (hS : lSim L xs h g) {a : Nat} {e e' : (Nat × Nat) ⊕ (Nat × List Value)} (he : lcell g a = some e) : lSim L xs (va_up h.1 a (some (lE e')), h.2) (g.1.set (a - 1) e', g.2) := by
  cases a with
  | zero => cases he
  | succ k =>
    replace he : lnth g.1 k = some e := he
    rw [lnth_eq] at he
    have hk := (List.getElem?_eq_some_iff.mp he).1
    refine ⟨?_, by rw [hS.2.1]; simp, hS.2.2⟩
    funext b
    show va_up h.1 (k + 1) (some (lE e')) b = _
    by_cases hb : b = k + 1
    · subst hb
      rw [va_up_self]
      simp [lnth_eq, hk]
    · rw [va_up_ne _ _ hb, hS.1]
      cases b with
      | zero => rfl
      | succ j =>
        simp only [lnth_eq, Nat.add_sub_cancel]
        rw [List.getElem?_set_ne (by omega)]
theorem lSim_new {L : Nat} {xs : Nat → Int32} {h : xH} {g : lH} (hS : lSim L xs h g) {e : (Nat × Nat) ⊕ (Nat × List Value)} {z : Nat} : lSim L xs (va_up h.1 h.2.1 (some (lE e)), h.2.1 + 1, h.2.2 + z) (g.1 ++ [e], g.2 + z) := by
  refine ⟨?_, by show h.2.1 + 1 = _; rw [hS.2.1]; simp, by show h.2.2 + z = _; rw [hS.2.2]⟩
  funext b
  show va_up h.1 h.2.1 (some (lE e)) b = _
  rw [hS.2.1]
  by_cases hb : b = g.1.length + 1
  · subst hb
    rw [va_up_self]
    simp [lnth_eq]
  · rw [va_up_ne _ _ hb, hS.1]
    cases b with
    | zero => rfl
    | succ j =>
      simp only [lnth_eq]
      by_cases hj : j < g.1.length
      · rw [List.getElem?_append_left hj]
      · rw [List.getElem?_eq_none (by omega), List.getElem?_eq_none (by simp; omega)]
theorem lSim_ops (L : Nat) (xs : Nat → Int32) : xOS (fun a => a) (lSim L xs) O1 OL := by
  refine ⟨?_, ?_, ?_, ?_, ?_, ?_, ?_, ?_⟩
  · intro h g a c f x hS e
    replace e : olI g a c f = some x := e
    unfold olI at e
    split at e
    · next c' fs hc =>
      have := lSim_get hS hc
      show o1I h a c f = _
      unfold o1I
      rw [this]
      simp only [lE]
      rw [lnth_eq] at e
      exact e
    · cases e
  · intro h g a c f x hS e
    replace e : olR g a c f = some x := e
    unfold olR at e
    split at e
    · next c' fs hc =>
      have := lSim_get hS hc
      show o1R h a c f = _
      unfold o1R
      rw [this]
      simp only [lE]
      rw [lnth_eq] at e
      exact e
    · cases e
  · intro h g a c f v g' hS e
    replace e : olP g a c f v = some g' := e
    unfold olP at e
    split at e
    · next c' fs hc =>
      have := lSim_get hS hc
      cases hb : (Nat.beq c' c && Nat.blt f fs.length) with
      | false => rw [hb] at e; cases e
      | true =>
        rw [hb] at e
        cases e
        refine ⟨_, ?_, lSim_set hS hc⟩
        rw [show xrn (fun a => a) v = v by rw [xrn_id]; rfl]
        show o1P h a c f v = _
        unfold o1P
        rw [this]
        simp only [lE, hb, cond_true]
    · cases e
  · intro h g c w hS e
    replace e : olN g c = some w := e
    unfold olN at e
    cases hb : Nat.ble c 8 with
    | false => rw [hb] at e; cases e
    | true =>
      rw [hb] at e
      cases e
      refine ⟨_, ?_, lSim_new hS (e := .inr (c, xdf c)) (z := xN c)⟩
      show o1N h c = _
      unfold o1N
      rw [hb, ← hS.2.1]
      rfl
  · intro h g t n w hS e
    replace e : olA g t n = some w := e
    unfold olA at e
    split at e
    · cases e
    · next hn =>
      cases e
      refine ⟨_, ?_, lSim_new hS (e := .inl (t, n.toNatClampNeg)) (z := n.toNatClampNeg)⟩
      show o1A h t n = _
      unfold o1A
      rw [if_neg hn, ← hS.2.1]
      rfl
  · intro h g t a i x hS e
    replace e : olL g t a i = some x := e
    unfold olL at e
    split at e
    · next t' n hc =>
      have := lSim_get hS hc
      split at e
      · next hi =>
        cases e
        show o1L h t a i = _
        unfold o1L
        rw [this]
        simp only [lE]
        rw [if_pos ⟨Or.inl hi.1, hi.2⟩]
      · cases e
    · cases e
  · intro h g t a i x g' hS e
    replace e : olS g t a i x = some g' := e
    unfold olS at e
    split at e
    · next t' n hc =>
      have := lSim_get hS hc
      split at e
      · next hi =>
        cases e
        refine ⟨h, ?_, hS⟩
        show o1S h t a i x = _
        unfold o1S
        rw [this]
        simp only [lE]
        rw [if_pos hi.1, hi.2]
        have hu : upd (fun _ => (0 : Int32)) i.toNatClampNeg 0 = fun _ => 0 := by
          funext j
          simp [upd]
        rw [hu]
        have hv : va_up h.1 a (some (Sum.inl (t', n, fun _ => (0 : Int32)))) = h.1 := by
          funext b
          by_cases hb : b = a
          · subst hb; rw [va_up_self, this]; rfl
          · rw [va_up_ne _ _ hb]
        rw [hv]
      · cases e
    · cases e
  · intro h g a x hS e
    replace e : ollen g a = some x := e
    unfold ollen at e
    split at e
    · next t n hc =>
      have := lSim_get hS hc
      show o1len h a = _
      unfold o1len
      rw [this]
      exact e
    · cases e
/-- calls with fuel: by computation -/
def xdF {Hp : Type} (O : xOps Hp) (n : Nat) : Nat → Nat → List Value → Hp → Option (Int32 × Hp)
  | 0 => fun _ _ _ => none
  | d + 1 => fun m as g => bif xrc O m as g then xrun O (xdF O n d) m n 0 (as ++ List.replicate (xmx m - as.length) .null) [] g else none
theorem xdF_sim {L : Nat} {xs : Nat → Int32} {n : Nat} : ∀ (d m : Nat) (as : List Value) (h : xH) (g : lH) (r : Int32) (g' : lH), lSim L xs h g → xdF OL n d m as g = some (r, g') → ∃ h', xden O1 xnp d m as h = some (r, h') ∧ lSim L xs h' g' := by
  intro d
  induction d with
  | zero => intro m as h g r g' hS e; cases e
  | succ d ih =>
    intro m as h g r g' hS e
    replace e : (bif xrc OL m as g then xrun OL (xdF OL n d) m n 0 (as ++ List.replicate (xmx m - as.length) .null) [] g else none) = some (r, g') := e
    cases hrc : xrc OL m as g with
    | false => rw [hrc] at e; cases e
    | true =>
      rw [hrc, cond_true] at e
      have hrc1 : xrc O1 m as h = true := by
        have := xrc_map (f := fun a => a) (S := lSim L xs) (O1' := O1) (O2' := OL) (fun h g a c hS e => by
          replace e : olO g a c = true := e
          unfold olO at e
          split at e
          · next c' fs hc =>
            show o1O h a c = true
            unfold o1O
            rw [lSim_get hS hc]
            exact e
          · cases e) hS hrc
        rw [xrn_ids] at this
        exact this
      obtain ⟨h', h1, h2⟩ := xsim_run (lSim_ops L xs) (cl1 := xden O1 xnp d) (fun m as h g r g' hS e => by rw [xrn_ids]; exact ih m as h g r g' hS e) n 0 _ _ h g (r, g') hS e
      refine ⟨h', ?_, h2⟩
      rw [xden1 hrc1]
      rw [xrn_ids] at h1
      exact xruns_iff.mpr ⟨n, h1⟩
