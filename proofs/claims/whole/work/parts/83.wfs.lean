/-! THE CLASS'S QUERY: what its nodes mean -/
def chL (P : List Nat) (i : Nat) : List Nat := (List.range P.length).filter (fun c => decide (P[c]? = some i))
theorem mem_chL {P : List Nat} {i c : Nat} : c ∈ chL P i ↔ P[c]? = some i := by
  unfold chL
  rw [List.mem_filter, List.mem_range, decide_eq_true_eq]
  refine ⟨fun h => h.2, fun h => ⟨?_, h⟩⟩
  obtain ⟨q, _⟩ := List.getElem?_eq_some_iff.mp h
  exact q
theorem chL_app (P : List Nat) (p i : Nat) : chL (P ++ [p]) i = chL P i ++ (if p = i then [P.length] else []) := by
  unfold chL
  rw [List.length_append, List.length_cons, List.length_nil, List.range_succ, List.filter_append]
  congr 1
  · refine List.filter_congr (fun c hc => ?_)
    rw [List.getElem?_append_left (List.mem_range.mp hc)]
  · rw [List.filter_cons, List.getElem?_append_right (Nat.le_refl _), Nat.sub_self]
    by_cases h : p = i
    · rw [if_pos h]; simp [h]
    · rw [if_neg h]; simp [h]
theorem chL_nodup (P : List Nat) (i : Nat) : (chL P i).Nodup := by
  unfold chL
  exact List.Pairwise.filter _ List.nodup_range
theorem chL_last {P : List Nat} {i c : Nat} {l : List Nat} (h : chL P i = l ++ [c]) : c ∉ l := by
  have := chL_nodup P i
  rw [h, List.nodup_append] at this
  intro q
  exact this.2.2 c q c (by simp) rfl
def cmb (k f : Nat) (ss : List Sem) : Sem := if k = 3 then lfS f else if k = 2 then ntS (ss.headD (lfS 0)) else if k = 1 then anS ss else orS ss
/-- node k is closed, and means what its children make it mean -/
def ClN (K P F : List Nat) (N : Nat) (σ : Nat → Sem) (k : Nat) : Prop := ∃ κ φ, K[k]? = some κ ∧ F[k]? = some φ ∧ κ ≤ 3 ∧ σ k = cmb κ φ ((chL P k).map σ) ∧ (κ = 2 → (chL P k).length = 1) ∧ (κ = 3 → φ < N ∧ chL P k = []) ∧ (κ ≠ 3 → φ = BAD32)
def opN (fr : FR) (k : Nat) : Prop := ∃ v ∈ fr, v.2 = k ∨ v.1 = k + 1
def FI (P : List Nat) (σ : Nat → Sem) : FR → DD → List Nat → Prop
  | [], [], _ => True
  | (0, i) :: fr, _ :: D, e => chL P i = e ∧ FI P σ fr D [i]
  | (j + 1, i) :: fr, (os, cs) :: D, e => (∃ l l', chL P i = l ++ e ∧ chL P j = l' ++ [i] ∧ l.map σ = cs ∧ l'.map σ = os) ∧ FI P σ fr D [j]
  | _, _, _ => False
theorem opN_hd {fr : FR} {v : Nat × Nat} : opN (v :: fr) (hd (v :: fr)) := ⟨v, by simp, Or.inl rfl⟩
theorem opN_cons {fr : FR} {v : Nat × Nat} {k : Nat} : opN (v :: fr) k ↔ v.2 = k ∨ v.1 = k + 1 ∨ opN fr k := by
  unfold opN
  constructor
  · intro ⟨w, hw, h⟩
    rcases List.mem_cons.mp hw with e | e
    · rw [e] at h
      rcases h with h | h
      · exact Or.inl h
      · exact Or.inr (Or.inl h)
    · exact Or.inr (Or.inr ⟨w, e, h⟩)
  · intro h
    rcases h with h | h | ⟨w, hw, h⟩
    · exact ⟨v, by simp, Or.inl h⟩
    · exact ⟨v, by simp, Or.inr h⟩
    · exact ⟨w, List.mem_cons_of_mem _ hw, h⟩
theorem opN_le {K P : List Nat} : ∀ {fr : FR} {k : Nat}, chOk K P fr → opN fr k → k ≤ hd fr := by
  intro fr
  induction fr with
  | nil => intro k h; exact absurd h id
  | cons v fr ih =>
    intro k h ho
    obtain ⟨j, i⟩ := v
    rcases opN_cons.mp ho with q | q | q
    · exact Nat.le_of_eq q.symm
    · cases j with
      | zero => exact absurd q (by simp)
      | succ j =>
        have jk : j = k := by simpa using q
        have : j < i := by
          cases fr with
          | nil => exact h.2.2.1
          | cons w fr => exact h.2.2.1
        show k ≤ i
        omega
    · cases j with
      | zero =>
        have := ih h.2.2.2 q
        have h3 := h.2.2.1
        show k ≤ i
        omega
      | succ j =>
        cases fr with
        | nil =>
          obtain ⟨w, hw, _⟩ := q
          cases hw
        | cons w fr =>
          have := ih h.2.2.2.2.2.2 q
          have h3 := h.2.2.2.2.2.1
          have h4 := h.2.2.1
          show k ≤ i
          omega
theorem opN_root {K P : List Nat} : ∀ {fr : FR}, chOk K P fr → opN fr 0 := by
  intro fr
  induction fr with
  | nil => intro h; exact absurd h id
  | cons v fr ih =>
    intro h
    obtain ⟨j, i⟩ := v
    cases j with
    | zero => exact opN_cons.mpr (Or.inr (Or.inr (ih h.2.2.2)))
    | succ j =>
      cases fr with
      | nil => exact opN_cons.mpr (Or.inr (Or.inl (by rw [h.2.2.2.2])))
      | cons w fr => exact opN_cons.mpr (Or.inr (Or.inr (ih h.2.2.2.2.2.2)))
theorem map_up {σ : Nat → Sem} {i : Nat} {s : Sem} {l : List Nat} (h : i ∉ l) : l.map (va_up σ i s) = l.map σ := by
  refine List.map_congr_left (fun c hc => vn _ _ (fun e => h (e ▸ hc)))
/-- a node outside the lists takes on a meaning -/
theorem FI_up {P : List Nat} {σ : Nat → Sem} {i p : Nat} {s : Sem} (hp : P[i]? = some p) : ∀ {fr : FR} {D : DD} {e : List Nat}, FI P σ fr D e → ¬ opN fr p → FI P (va_up σ i s) fr D e := by
  intro fr
  induction fr with
  | nil => intro D e h _; cases D with
    | nil => trivial
    | cons q D => exact h
  | cons v fr ih =>
    intro D e h hn
    obtain ⟨j, k⟩ := v
    have hn2 : ¬ opN fr p := fun q => hn (opN_cons.mpr (Or.inr (Or.inr q)))
    cases D with
    | nil => exact absurd h (by cases j <;> exact id)
    | cons q D =>
      cases j with
      | zero => exact ⟨h.1, ih h.2 hn2⟩
      | succ j =>
        obtain ⟨os, cs⟩ := q
        obtain ⟨⟨l, l', h1, h2, h3, h4⟩, h5⟩ := h
        refine ⟨⟨l, l', h1, h2, ?_, ?_⟩, ih h5 hn2⟩
        · rw [map_up, h3]
          intro q
          have : i ∈ chL P k := by rw [h1]; exact List.mem_append_left _ q
          rw [mem_chL, hp] at this
          cases this
          exact hn (opN_cons.mpr (Or.inl rfl))
        · rw [map_up, h4]
          intro q
          have : i ∈ chL P j := by rw [h2]; exact List.mem_append_left _ q
          rw [mem_chL, hp] at this
          cases this
          exact hn (opN_cons.mpr (Or.inr (Or.inl rfl)))
/-- the same where it is the last child of the top -/
theorem FI_up2 {K P : List Nat} {σ : Nat → Sem} {i : Nat} {s : Sem} {fr : FR} {D : DD} (hc : chOk K P fr) (hp : P[i]? = some (hd fr)) (h : FI P σ fr D [i]) : FI P (va_up σ i s) fr D [i] := by
  cases fr with
  | nil => exact absurd hc id
  | cons v fr =>
    obtain ⟨j, k⟩ := v
    have hp2 : P[i]? = some k := hp
    cases D with
    | nil => exact absurd h (by cases j <;> exact id)
    | cons q D =>
      cases j with
      | zero =>
        refine ⟨h.1, FI_up hp2 h.2 (fun q => ?_)⟩
        have := opN_le hc.2.2.2 q
        have := hc.2.2.1
        omega
      | succ j =>
        obtain ⟨os, cs⟩ := q
        obtain ⟨⟨l, l', h1, h2, h3, h4⟩, h5⟩ := h
        have jk : j < k := by
          cases fr with
          | nil => exact hc.2.2.1
          | cons w fr => exact hc.2.2.1
        refine ⟨⟨l, l', h1, h2, ?_, ?_⟩, FI_up hp2 h5 (fun q => ?_)⟩
        · rw [map_up (chL_last h1), h3]
        · rw [map_up, h4]
          intro q
          have : i ∈ chL P j := by rw [h2]; exact List.mem_append_left _ q
          rw [mem_chL, hp2] at this
          cases this
          omega
        · cases fr with
          | nil =>
            obtain ⟨w, hw, _⟩ := q
            cases hw
          | cons w fr =>
            have := opN_le hc.2.2.2.2.2.2 q
            have := hc.2.2.2.2.2.1
            omega
/-- a node closes -/
theorem ClN_up {K P F : List Nat} {N : Nat} {σ : Nat → Sem} {i k p : Nat} {s : Sem} (h : ClN K P F N σ k) (hk : k ≠ i) (hp : P[i]? = some p) (hpk : p ≠ k) : ClN K P F N (va_up σ i s) k := by
  obtain ⟨κ, φ, h1, h2, h3, h4, h5⟩ := h
  refine ⟨κ, φ, h1, h2, h3, ?_, h5⟩
  rw [vn _ _ hk, map_up, h4]
  intro q
  rw [mem_chL, hp] at q
  cases q
  exact hpk rfl
/-- a closed node is put below the top: all ! right above it close -/
theorem WS_att {K P F : List Nat} {N : Nat} (lF : F.length = K.length) (hF : ∀ k : Nat, K[k]? = some 2 → F[k]? = some BAD32) : ∀ {fr : FR} {D : DD} {σ : Nat → Sem} {r : Nat} {s : Sem}, chOk K P fr → P[r]? = some (hd fr) → hd fr < r → (∀ k, k < K.length → ¬ opN fr k → ClN K P F N σ k) → FI P σ fr D [r] → σ r = s →
    ∃ σ', (∀ k, k < K.length → ¬ opN (dn fr) k → ClN K P F N σ' k) ∧ FI P σ' (dn fr) (attD fr D s) [] := by
  intro fr
  induction fr with
  | nil => intro D σ r s h; exact absurd h id
  | cons v fr ih =>
    intro D σ r s hc hr hlt hcl hfi hs
    obtain ⟨j, i⟩ := v
    cases D with
    | nil => exact absurd hfi (by cases j <;> exact id)
    | cons q D =>
      cases j with
      | zero =>
        obtain ⟨c1, c2, c3, c4⟩ := hc
        obtain ⟨f1, f2⟩ := hfi
        have hlt : i < r := hlt
        have := ih (D := D) (σ := va_up σ i (ntS s)) (r := i) (s := ntS s) c4 c2 c3 ?_ (FI_up2 c4 c2 f2) (vs _ _ _)
        · exact this
        · intro k hk hn
          by_cases e : k = i
          · subst e
            refine ⟨2, BAD32, c1, hF k c1, by omega, ?_, fun _ => by rw [f1]; rfl, fun q => by omega, fun _ => rfl⟩
            rw [vs, f1]
            show ntS s = ntS (va_up σ k (ntS s) r)
            rw [vn _ _ (by omega), hs]
          · refine ClN_up (hcl k hk (fun q => ?_)) e c2 (fun q => ?_)
            · rcases opN_cons.mp q with q | q | q
              · exact e q.symm
              · simp at q
              · exact hn q
            · obtain ⟨w, fr1, rfl⟩ := chOk_ne c4
              exact hn (q ▸ opN_hd)
      | succ j =>
        obtain ⟨os, cs⟩ := q
        obtain ⟨⟨l, l', h1, h2, h3, h4⟩, h5⟩ := hfi
        refine ⟨σ, hcl, ⟨l ++ [r], l', by rw [h1, List.append_nil], h2, ?_, h4⟩, h5⟩
        rw [List.map_append, h3]
        show cs ++ [σ r] = cs ++ [s]
        rw [hs]
/-- lists that do not see a new node -/
theorem FI_app {P : List Nat} {σ σ' : Nat → Sem} {p : Nat} (hσ : ∀ c, c < P.length → σ' c = σ c) : ∀ {fr : FR} {D : DD} {e : List Nat}, FI P σ fr D e → ¬ opN fr p → FI (P ++ [p]) σ' fr D e := by
  have mp : ∀ (k : Nat) (l r : List Nat), chL P k = l ++ r → l.map σ' = l.map σ := by
    intro k l r h
    refine List.map_congr_left (fun c hc => hσ c ?_)
    have : c ∈ chL P k := by rw [h]; exact List.mem_append_left _ hc
    rw [mem_chL] at this
    obtain ⟨q, _⟩ := List.getElem?_eq_some_iff.mp this
    exact q
  intro fr
  induction fr with
  | nil => intro D e h _; cases D with
    | nil => trivial
    | cons q D => exact h
  | cons v fr ih =>
    intro D e h hn
    obtain ⟨j, k⟩ := v
    have hn2 : ¬ opN fr p := fun q => hn (opN_cons.mpr (Or.inr (Or.inr q)))
    have hk : p ≠ k := fun q => hn (opN_cons.mpr (Or.inl q.symm))
    cases D with
    | nil => exact absurd h (by cases j <;> exact id)
    | cons q D =>
      cases j with
      | zero => exact ⟨by rw [chL_app, if_neg hk, List.append_nil]; exact h.1, ih h.2 hn2⟩
      | succ j =>
        obtain ⟨os, cs⟩ := q
        obtain ⟨⟨l, l', h1, h2, h3, h4⟩, h5⟩ := h
        have hj : p ≠ j := fun q => hn (opN_cons.mpr (Or.inr (Or.inl (by rw [q]))))
        exact ⟨⟨l, l', by rw [chL_app, if_neg hk, List.append_nil, h1], by rw [chL_app, if_neg hj, List.append_nil, h2], by rw [mp k l e h1, h3], by rw [mp j l' [k] h2, h4]⟩, ih h5 hn2⟩
/-- a new node below the top -/
theorem FI_new {K P : List Nat} {σ σ' : Nat → Sem} (hσ : ∀ c, c < P.length → σ' c = σ c) {fr : FR} {D : DD} (hc : chOk K P fr) (h : FI P σ fr D []) : FI (P ++ [hd fr]) σ' fr D [P.length] := by
  cases fr with
  | nil => exact absurd hc id
  | cons v fr =>
    obtain ⟨j, k⟩ := v
    have lo : ¬ opN fr k := by
      intro q
      cases j with
      | zero =>
        have := opN_le hc.2.2.2 q
        have := hc.2.2.1
        omega
      | succ j =>
        cases fr with
        | nil =>
          obtain ⟨w, hw, _⟩ := q
          cases hw
        | cons w fr =>
          have := opN_le hc.2.2.2.2.2.2 q
          have := hc.2.2.2.2.2.1
          have := hc.2.2.1
          omega
    show FI (P ++ [k]) σ' ((j, k) :: fr) D [P.length]
    cases D with
    | nil => exact absurd h (by cases j <;> exact id)
    | cons q D =>
      cases j with
      | zero => exact ⟨by rw [chL_app, if_pos rfl, h.1]; rfl, FI_app hσ h.2 lo⟩
      | succ j =>
        obtain ⟨os, cs⟩ := q
        obtain ⟨⟨l, l', h1, h2, h3, h4⟩, h5⟩ := h
        have jk : j < k := by
          cases fr with
          | nil => exact hc.2.2.1
          | cons w fr => exact hc.2.2.1
        have mp : ∀ (k : Nat) (l r : List Nat), chL P k = l ++ r → l.map σ' = l.map σ := by
          intro k l r h
          refine List.map_congr_left (fun c hc => hσ c ?_)
          have : c ∈ chL P k := by rw [h]; exact List.mem_append_left _ hc
          rw [mem_chL] at this
          obtain ⟨q, _⟩ := List.getElem?_eq_some_iff.mp this
          exact q
        refine ⟨⟨l, l', ?_, ?_, by rw [mp k l [] h1, h3], by rw [mp j l' [k] h2, h4]⟩, FI_app hσ h5 lo⟩
        · rw [chL_app, if_pos rfl, h1, List.append_nil]
        · rw [chL_app, if_neg (by omega), List.append_nil, h2]
theorem ClN_app {K P F : List Nat} {N N' : Nat} (hN : N ≤ N') {σ σ' : Nat → Sem} {k x p φ : Nat} (hσ : ∀ c, c < P.length → σ' c = σ c) (lP : P.length = K.length) (h : ClN K P F N σ k) (hk : p ≠ k) : ClN (K ++ [x]) (P ++ [p]) (F ++ [φ]) N' σ' k := by
  obtain ⟨κ, ψ, h1, h2, h3, h4, h5, h6, h7⟩ := h
  have e : chL (P ++ [p]) k = chL P k := by rw [chL_app, if_neg hk, List.append_nil]
  have kl : k < P.length := by
    obtain ⟨q, _⟩ := List.getElem?_eq_some_iff.mp h1
    omega
  refine ⟨κ, ψ, app_at h1, app_at h2, h3, ?_, by rw [e]; exact h5, fun q => ⟨by have := (h6 q).1; omega, by rw [e]; exact (h6 q).2⟩, h7⟩
  rw [hσ k kl, e, h4]
  congr 1
  refine (List.map_congr_left (fun c hc => hσ c ?_)).symm
  rw [mem_chL] at hc
  obtain ⟨q, _⟩ := List.getElem?_eq_some_iff.mp hc
  exact q
