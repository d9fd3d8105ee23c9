/-! what a step that comes to an end began with -/
section
variable {Hp : Type} {q : Int32 × Hp}
theorem xin_some {v : Value} {f : Int32 → Option (Int32 × Hp)} (h : xin v f = some q) : ∃ x, v = .int x ∧ f x = some q := by
  cases v <;> first | exact ⟨_, rfl, h⟩ | cases h
theorem xrf_some {v : Value} {f : Nat → Option (Int32 × Hp)} (h : xrf v f = some q) : ∃ x, v = .ref x ∧ f x = some q := by
  cases v <;> first | exact ⟨_, rfl, h⟩ | cases h
theorem xi1_some {st : List Value} {f : Int32 → List Value → Option (Int32 × Hp)} (h : xi1 st f = some q) : ∃ x r, st = .int x :: r ∧ f x r = some q := by
  cases st with
  | nil => cases h
  | cons v r => cases v <;> first | exact ⟨_, _, rfl, h⟩ | cases h
theorem xr1_some {st : List Value} {f : Nat → List Value → Option (Int32 × Hp)} (h : xr1 st f = some q) : ∃ x r, st = .ref x :: r ∧ f x r = some q := by
  cases st with
  | nil => cases h
  | cons v r => cases v <;> first | exact ⟨_, _, rfl, h⟩ | cases h
theorem xi2_some {st : List Value} {f : Int32 → Int32 → List Value → Option (Int32 × Hp)} (h : xi2 st f = some q) : ∃ x y r, st = .int y :: .int x :: r ∧ f x y r = some q := by
  rw [xi2_eq] at h
  obtain ⟨y, r, rfl, h1⟩ := xi1_some h
  obtain ⟨x, r2, rfl, h2⟩ := xi1_some h1
  exact ⟨x, y, r2, rfl, h2⟩
theorem xri_some {st : List Value} {f : Nat → Int32 → List Value → Option (Int32 × Hp)} (h : xri st f = some q) : ∃ a i r, st = .int i :: .ref a :: r ∧ f a i r = some q := by
  rw [xri_eq] at h
  obtain ⟨y, r, rfl, h⟩ := xi1_some h
  obtain ⟨x, r, rfl, h⟩ := xr1_some h
  exact ⟨x, y, r, rfl, h⟩
theorem xrr_some {st : List Value} {f : Nat → Nat → List Value → Option (Int32 × Hp)} (h : xrr st f = some q) : ∃ a b r, st = .ref b :: .ref a :: r ∧ f a b r = some q := by
  rw [xrr_eq] at h
  obtain ⟨y, r, rfl, h1⟩ := xr1_some h
  obtain ⟨x, r2, rfl, h2⟩ := xr1_some h1
  exact ⟨x, y, r2, rfl, h2⟩
theorem xrii_some {st : List Value} {f : Nat → Int32 → Int32 → List Value → Option (Int32 × Hp)} (h : xrii st f = some q) : ∃ a i x r, st = .int x :: .int i :: .ref a :: r ∧ f a i x r = some q := by
  rw [xrii_eq] at h
  obtain ⟨y, r, rfl, h⟩ := xi1_some h
  obtain ⟨a, i, r, rfl, h⟩ := xri_some h
  exact ⟨a, i, y, r, rfl, h⟩
theorem xj_some {pc : Nat} {off : Int} {f : Nat → Option (Int32 × Hp)} (h : xj pc off f = some q) : ∃ t : Nat, (pc : Int) + off = (t : Int) ∧ f t = some q := by
  unfold xj at h
  split at h
  · next t e => exact ⟨t, e, h⟩
  · cases h
theorem xpop_spec {n : Nat} {st acc as r : List Value} (h : xpop n st acc = some (as, r)) : ∃ bs, as = bs ++ acc ∧ bs.length = n ∧ st = bs.reverse ++ r := by
  induction n generalizing st acc with
  | zero =>
    cases h
    exact ⟨[], rfl, rfl, rfl⟩
  | succ n ih =>
    cases st with
    | nil => cases h
    | cons v st =>
      obtain ⟨bs, e1, e2, e3⟩ := ih (st := st) (acc := v :: acc) h
      refine ⟨bs ++ [v], by rw [e1]; simp, by simp [e2], by rw [e3]; simp⟩
theorem xgd_spec {r : List Value} (h : xgd r = true) : (r.map fun v => v.category).sum ≤ 8 := by
  simp only [xgd, Bool.and_eq_true] at h
  have h1 : r.length ≤ 8 := Nat.le_of_ble_eq_true h.1
  have h2 : ∀ r : List Value, xcat r = true → (r.map fun v => v.category).sum = r.length := by
    intro r
    induction r with
    | nil => intro _; rfl
    | cons v r ih =>
      intro hc
      cases v with
      | int x => show 1 + (r.map fun v => v.category).sum = r.length + 1; rw [ih hc]; omega
      | ref x => show 1 + (r.map fun v => v.category).sum = r.length + 1; rw [ih hc]; omega
      | _ => cases hc
  rw [h2 r h.2]
  exact h1
theorem xsw_some {x : Int32} {os : List Int} {pc : Nat} {d : Int} {f : Nat → Option (Int32 × Hp)} : ∀ {lo : Int}, xsw x lo os pc d f = some q → (∃ (j : Nat) (off : Int) (t : Nat), os[j]? = some off ∧ x = xlit (lo + j) ∧ (pc : Int) + off = (t : Int) ∧ f t = some q) ∨ ((∀ j : Nat, j < os.length → x ≠ xlit (lo + j)) ∧ ∃ t : Nat, (pc : Int) + d = (t : Int) ∧ f t = some q) := by
  induction os with
  | nil => exact fun {lo} h => Or.inr ⟨fun j hj => by simp at hj, xj_some h⟩
  | cons o os ih =>
    intro lo h
    unfold xsw at h
    split at h
    · next hx =>
      obtain ⟨t, h1, h2⟩ := xj_some h
      exact Or.inl ⟨0, o, t, rfl, by simpa using hx, h1, h2⟩
    · next hx =>
      rcases ih h with ⟨j, off, t, h1, h2, h3, h4⟩ | ⟨h1, h2⟩
      · exact Or.inl ⟨j + 1, off, t, by simpa using h1, by rw [h2]; congr 1; omega, h3, h4⟩
      · refine Or.inr ⟨fun j hj => ?_, h2⟩
        cases j with
        | zero => simpa using hx
        | succ j =>
          have h3 := h1 j (by simpa using hj)
          intro e
          exact h3 (by rw [e]; congr 1; omega)
theorem xlit_toInt {v : Int} (h1 : 0 ≤ v) (h2 : v ≤ 200) : (xlit v).toInt = v := by
  rw [xlit_eq]
  exact Int32.toInt_ofInt_of_le (by simp; omega) (by simp; omega)
theorem xlk_some {x : Int32} {ps : List (Int × Int)} {pc : Nat} {d : Int} {f : Nat → Option (Int32 × Hp)} (hp : ps.all (fun q => decide (0 ≤ q.1) && decide (q.1 ≤ 100)) = true) (h : xlk x ps pc d f = some q) : ∃ t : Nat, (pc : Int) + Op.lookupswitch.offset ps d x.toInt = (t : Int) ∧ f t = some q := by
  induction ps with
  | nil => exact xj_some h
  | cons o ps ih =>
    obtain ⟨v, o⟩ := o
    simp only [List.all_cons, Bool.and_eq_true, decide_eq_true_eq] at hp
    unfold xlk at h
    rw [Op.lookupswitch.offset_cons]
    split at h
    · next hx =>
      rw [if_pos (by rw [hx, xlit_toInt hp.1.1 (by omega)])]
      exact xj_some h
    · next hx =>
      rw [if_neg]
      · exact ih hp.2 h
      · intro e
        apply hx
        apply Int32.toInt_inj.mp
        rw [xlit_toInt hp.1.1 (by omega), e]
end
theorem o1I_some {h : xH} {a c f : Nat} {x : Int32} (e : o1I h a c f = some x) : ∃ fs, h.1 a = some (.inr (c, fs)) ∧ fs[f]? = some (.int x) := by
  unfold o1I at e
  split at e
  · next c' fs hh =>
    cases hb : Nat.beq c' c with
    | false => rw [hb] at e; cases e
    | true =>
      have hc := Nat.eq_of_beq_eq_true hb
      subst hc
      rw [hb] at e
      simp only [cond_true] at e
      split at e
      · next y hy => cases e; exact ⟨fs, hh, hy⟩
      · cases e
  · cases e
theorem o1R_some {h : xH} {a c f x : Nat} (e : o1R h a c f = some x) : ∃ fs, h.1 a = some (.inr (c, fs)) ∧ fs[f]? = some (.ref x) := by
  unfold o1R at e
  split at e
  · next c' fs hh =>
    cases hb : Nat.beq c' c with
    | false => rw [hb] at e; cases e
    | true =>
      have hc := Nat.eq_of_beq_eq_true hb
      subst hc
      rw [hb] at e
      simp only [cond_true] at e
      split at e
      · next y hy => cases e; exact ⟨fs, hh, hy⟩
      · cases e
  · cases e
theorem o1P_some {h h' : xH} {a c f : Nat} {v : Value} (e : o1P h a c f v = some h') : ∃ fs, h.1 a = some (.inr (c, fs)) ∧ f < fs.length ∧ h' = (va_up h.1 a (some (.inr (c, fs.set f v))), h.2) := by
  unfold o1P at e
  split at e
  · next c' fs hh =>
    cases hb : (Nat.beq c' c && Nat.blt f fs.length) with
    | false => rw [hb] at e; cases e
    | true =>
      rw [hb] at e
      simp only [Bool.and_eq_true] at hb
      have hc := Nat.eq_of_beq_eq_true hb.1
      subst hc
      cases e
      exact ⟨fs, hh, Nat.le_of_ble_eq_true hb.2, rfl⟩
  · cases e
theorem o1L_some {h : xH} {t a : Nat} {i x : Int32} (e : o1L h t a i = some x) : ∃ t' n f, h.1 a = some (.inl (t', n, f)) ∧ (t' = t ∨ (t' = 2 ∧ t = 0)) ∧ ¬ (i < 0 ∨ n ≤ i.toNatClampNeg) ∧ x = f i.toNatClampNeg := by
  unfold o1L at e
  split at e
  · next t' n f hh =>
    split at e
    · next hc => cases e; exact ⟨t', n, f, hh, hc.1, hc.2, rfl⟩
    · cases e
  · cases e
theorem o1S_some {h h' : xH} {t a : Nat} {i x : Int32} (e : o1S h t a i x = some h') : ∃ n f, h.1 a = some (.inl (t, n, f)) ∧ ¬ (i < 0 ∨ n ≤ i.toNatClampNeg) ∧ h' = (va_up h.1 a (some (.inl (t, n, upd f i.toNatClampNeg x))), h.2) := by
  unfold o1S at e
  split at e
  · next t' n f hh =>
    split at e
    · next hc =>
      obtain ⟨rfl, hc⟩ := hc
      cases e
      exact ⟨n, f, hh, hc, rfl⟩
    · cases e
  · cases e
theorem o1len_some {h : xH} {a : Nat} {x : Int32} (e : o1len h a = some x) : ∃ t n f, h.1 a = some (.inl (t, n, f)) ∧ x = Int32.ofNat n := by
  unfold o1len at e
  split at e
  · next t n f hh => cases e; exact ⟨t, n, f, hh, rfl⟩
  · cases e
theorem o1O_some {h : xH} {a c : Nat} (e : o1O h a c = true) : ∃ fs, h.1 a = some (.inr (c, fs)) := by
  unfold o1O at e
  split at e
  · next c' fs hh => exact ⟨fs, by rw [hh, Nat.eq_of_beq_eq_true e]⟩
  · cases e
