/-! THE CLASS'S QUERY: its nodes keep their meaning -/
def PF (K P F : List Nat) : Prop := P.length = K.length ∧ F.length = K.length ∧ (∀ c p : Nat, c ≠ 0 → P[c]? = some p → p < c) ∧ P[0]? = some BAD32 ∧ (∀ k : Nat, k < K.length → K[k]? ≠ some 3 → F[k]? = some BAD32)
def WS (K P F : List Nat) (N : Nat) (fr : FR) (D : DD) : Prop := PF K P F ∧ ∃ σ, (∀ k, k < K.length → ¬ opN fr k → ClN K P F N σ k) ∧ FI P σ fr D []
theorem noch {P : List Nat} {n : Nat} (h : ∀ c p : Nat, c ≠ 0 → P[c]? = some p → p < c) (h0 : P[0]? = some BAD32) (hn : P.length ≤ n + 1) (hb : n < 1000) : chL P n = [] := by
  refine List.eq_nil_iff_forall_not_mem.mpr (fun c hc => ?_)
  rw [mem_chL] at hc
  obtain ⟨q, _⟩ := List.getElem?_eq_some_iff.mp hc
  by_cases e : c = 0
  · subst e
    rw [h0] at hc
    have hc : BAD32 = n := Option.some.inj hc
    have bb : BAD32 = 4294967295 := rfl
    omega
  · have := h c n e hc
    omega
theorem PF.app {K P F : List Nat} (h : PF K P F) {x p φ : Nat} (hp : p < K.length) (hx : x ≠ 3 → φ = BAD32) : PF (K ++ [x]) (P ++ [p]) (F ++ [φ]) := by
  obtain ⟨h1, h2, h3, h4, h5⟩ := h
  refine ⟨by simp [h1], by simp [h2], fun c q hc hq => ?_, app_at h4, fun k hk hk3 => ?_⟩
  · by_cases e : c < P.length
    · rw [List.getElem?_append_left e] at hq
      exact h3 c q hc hq
    · obtain ⟨g, _⟩ := List.getElem?_eq_some_iff.mp hq
      rw [List.length_append] at g
      simp only [List.length_cons, List.length_nil] at g
      have : c = P.length := by omega
      subst this
      rw [app_new] at hq
      cases hq
      omega
  · rw [List.length_append] at hk
    simp only [List.length_cons, List.length_nil] at hk
    by_cases e : k < K.length
    · refine app_at (h5 k e (fun q => hk3 (app_at q)))
    · have : k = K.length := by omega
      subst this
      rw [app_new] at hk3
      rw [← h2, app_new, hx (fun q => hk3 (by rw [q]))]
theorem WS_leaf {K P F : List Nat} {N : Nat} {fr : FR} {D : DD} (h : WS K P F N fr D) (hc : chOk K P fr) (hl : K.length < 900) : WS (K ++ [3]) (P ++ [hd fr]) (F ++ [N]) (N + 1) (dn fr) (attD fr D (lfS N)) := by
  obtain ⟨pf, σ, h1, h2⟩ := h
  obtain ⟨hi1, hi2, hi3⟩ := hd_in hc
  have pf' := pf.app (x := 3) (p := hd fr) (φ := N) hi1 (fun q => absurd rfl q)
  refine ⟨pf', ?_⟩
  have hc' : chOk (K ++ [3]) (P ++ [hd fr]) fr := chOk_app (fun i k q => app_at q) (fun i k q => app_at q) hc
  have hσ : ∀ c, c < P.length → va_up σ K.length (lfS N) c = σ c := fun c q => vn _ _ (by have := pf.1; omega)
  have pn : (P ++ [hd fr])[K.length]? = some (hd fr) := by rw [← pf.1, app_new]
  refine WS_att (K := K ++ [3]) (P := P ++ [hd fr]) (F := F ++ [N]) (N := N + 1) pf'.2.1 (fun k hk => ?_) (r := K.length) (σ := va_up σ K.length (lfS N)) hc' pn hi1 (fun k hk hn => ?_) ?_ (vs _ _ _)
  · obtain ⟨q, _⟩ := List.getElem?_eq_some_iff.mp hk
    exact pf'.2.2.2.2 k q (by rw [hk]; exact fun q => by cases q)
  · rw [List.length_append] at hk
    simp only [List.length_cons, List.length_nil] at hk
    by_cases e : k = K.length
    · subst e
      have nc := noch (n := K.length) pf'.2.2.1 pf'.2.2.2.1 (by rw [List.length_append, pf.1]; simp) (by omega)
      refine ⟨3, N, app_new _ _, by rw [← pf.2.1, app_new], by omega, by rw [vs]; rfl, fun q => by omega, fun _ => ⟨by omega, nc⟩, fun q => absurd rfl q⟩
    · refine ClN_app (by omega) hσ pf.1 (h1 k (by omega) hn) (fun q => ?_)
      obtain ⟨v, fr1, rfl⟩ := chOk_ne hc
      exact hn (q ▸ opN_hd)
  · have := FI_new hσ hc h2
    rw [pf.1] at this
    exact this
theorem WS_not {K P F : List Nat} {N : Nat} {fr : FR} {D : DD} (h : WS K P F N fr D) (hc : chOk K P fr) (hl : K.length < 900) : WS (K ++ [2]) (P ++ [hd fr]) (F ++ [BAD32]) N ((0, K.length) :: fr) (([], []) :: D) := by
  obtain ⟨pf, σ, h1, h2⟩ := h
  obtain ⟨hi1, hi2, hi3⟩ := hd_in hc
  have pf' := pf.app (x := 2) (p := hd fr) (φ := BAD32) hi1 (fun _ => rfl)
  refine ⟨pf', σ, fun k hk hn => ?_, noch pf'.2.2.1 pf'.2.2.2.1 (by rw [List.length_append, pf.1]; simp) (by omega), ?_⟩
  · rw [List.length_append] at hk
    simp only [List.length_cons, List.length_nil] at hk
    have e : k ≠ K.length := fun q => hn (opN_cons.mpr (Or.inl q.symm))
    have hn2 : ¬ opN fr k := fun q => hn (opN_cons.mpr (Or.inr (Or.inr q)))
    refine ClN_app (Nat.le_refl _) (fun c _ => rfl) pf.1 (h1 k (by omega) hn2) (fun q => ?_)
    obtain ⟨v, fr1, rfl⟩ := chOk_ne hc
    exact hn2 (q ▸ opN_hd)
  · have := FI_new (σ' := σ) (fun c _ => rfl) hc h2
    rw [pf.1] at this
    exact this
theorem WS_par {K P F : List Nat} {N : Nat} {fr : FR} {D : DD} (h : WS K P F N fr D) (hc : chOk K P fr) (hl : K.length < 900) : WS (K ++ [0] ++ [1]) (P ++ [hd fr] ++ [K.length]) (F ++ [BAD32] ++ [BAD32]) N ((K.length + 1, K.length + 1) :: fr) (([], []) :: D) := by
  obtain ⟨pf, σ, h1, h2⟩ := h
  obtain ⟨hi1, hi2, hi3⟩ := hd_in hc
  have pf' := pf.app (x := 0) (p := hd fr) (φ := BAD32) hi1 (fun _ => rfl)
  have pf'' := pf'.app (x := 1) (p := K.length) (φ := BAD32) (by simp) (fun _ => rfl)
  have lP : (P ++ [hd fr]).length = K.length + 1 := by rw [List.length_append, pf.1]; rfl
  have nn : ¬ opN fr K.length := fun q => by
    have := opN_le hc q
    omega
  refine ⟨pf'', σ, fun k hk hn => ?_, ⟨[], [], ?_, ?_, rfl, rfl⟩, ?_⟩
  · simp only [List.length_append, List.length_cons, List.length_nil] at hk
    have e : k ≠ K.length + 1 := fun q => hn (opN_cons.mpr (Or.inl q.symm))
    have e2 : k ≠ K.length := fun q => hn (opN_cons.mpr (Or.inr (Or.inl (by rw [q]))))
    have hn2 : ¬ opN fr k := fun q => hn (opN_cons.mpr (Or.inr (Or.inr q)))
    refine ClN_app (Nat.le_refl _) (fun c _ => rfl) pf'.1 (ClN_app (Nat.le_refl _) (fun c _ => rfl) pf.1 (h1 k (by omega) hn2) (fun q => ?_)) (fun q => e2 q.symm)
    obtain ⟨v, fr1, rfl⟩ := chOk_ne hc
    exact hn2 (q ▸ opN_hd)
  · exact noch pf''.2.2.1 pf''.2.2.2.1 (by rw [List.length_append, lP]; simp) (by omega)
  · rw [chL_app, if_pos rfl, lP, noch pf'.2.2.1 pf'.2.2.2.1 (by omega) (by omega)]
  · have := FI_new (σ' := σ) (fun c _ => rfl) hc h2
    rw [pf.1] at this
    exact FI_app (fun c _ => rfl) this nn
/-- an ALL closes -/
theorem ClN_all {K P F : List Nat} {N : Nat} {σ : Nat → Sem} {i j : Nat} {l : List Nat} {cs : List Sem} (pf : PF K P F) (ki : K[i]? = some 1) (pi : P[i]? = some j) (ji : j < i) (h1 : chL P i = l) (h3 : l.map σ = cs) : ClN K P F N (va_up σ i (anS cs)) i := by
  obtain ⟨q, _⟩ := List.getElem?_eq_some_iff.mp ki
  refine ⟨1, BAD32, ki, pf.2.2.2.2 i q (by rw [ki]; exact fun q => by cases q), by omega, ?_, fun q => by omega, fun q => by omega, fun _ => rfl⟩
  have ni : i ∉ l := by
    intro q
    rw [← h1, mem_chL, pi] at q
    cases q
    omega
  rw [vs, h1, map_up ni, h3]
  rfl
theorem par_lt {K P : List Nat} {fr1 : FR} {j i : Nat} (hc : chOk K P ((j + 1, i) :: fr1)) : K[i]? = some 1 ∧ P[i]? = some j ∧ j < i ∧ K[j]? = some 0 ∧ ¬ opN fr1 j ∧ (fr1.length ≠ 0 → chOk K P fr1 ∧ P[j]? = some (hd fr1) ∧ hd fr1 < j) := by
  cases fr1 with
  | nil =>
    refine ⟨hc.1, hc.2.1, hc.2.2.1, hc.2.2.2.1, fun q => ?_, fun q => absurd rfl q⟩
    obtain ⟨w, hw, _⟩ := q
    cases hw
  | cons w fr =>
    refine ⟨hc.1, hc.2.1, hc.2.2.1, hc.2.2.2.1, fun q => ?_, fun _ => ⟨hc.2.2.2.2.2.2, hc.2.2.2.2.1, hc.2.2.2.2.2.1⟩⟩
    have := opN_le hc.2.2.2.2.2.2 q
    have := hc.2.2.2.2.2.1
    omega
theorem WS_or {K P F : List Nat} {N : Nat} {fr1 : FR} {D : DD} {j i : Nat} {os cs : List Sem} (h : WS K P F N ((j + 1, i) :: fr1) ((os, cs) :: D)) (hc : chOk K P ((j + 1, i) :: fr1)) (hl : K.length < 900) : WS (K ++ [1]) (P ++ [j]) (F ++ [BAD32]) N ((j + 1, K.length) :: fr1) ((os ++ [anS cs], []) :: D) := by
  obtain ⟨pf, σ, h1, ⟨l, l', g1, g2, g3, g4⟩, g5⟩ := h
  obtain ⟨c1, c2, c3, c4, c5, c6⟩ := par_lt hc
  rw [List.append_nil] at g1
  have jl : j < K.length := by
    obtain ⟨q, _⟩ := List.getElem?_eq_some_iff.mp c4
    exact q
  have pf' := pf.app (x := 1) (p := j) (φ := BAD32) jl (fun _ => rfl)
  refine ⟨pf', va_up σ i (anS cs), fun k hk hn => ?_, ⟨[], l' ++ [i], ?_, ?_, rfl, ?_⟩, ?_⟩
  · rw [List.length_append] at hk
    simp only [List.length_cons, List.length_nil] at hk
    have e : k ≠ K.length := fun q => hn (opN_cons.mpr (Or.inl q.symm))
    have e2 : j ≠ k := fun q => hn (opN_cons.mpr (Or.inr (Or.inl (by rw [q]))))
    have hn2 : ¬ opN fr1 k := fun q => hn (opN_cons.mpr (Or.inr (Or.inr q)))
    refine ClN_app (Nat.le_refl _) (fun c _ => rfl) pf.1 ?_ e2
    by_cases ei : k = i
    · subst ei
      exact ClN_all pf c1 c2 c3 g1 g3
    · refine ClN_up (h1 k (by omega) (fun q => ?_)) ei c2 e2
      rcases opN_cons.mp q with q | q | q
      · exact ei q.symm
      · exact e2 (by simpa using q)
      · exact hn2 q
  · exact noch pf'.2.2.1 pf'.2.2.2.1 (by rw [List.length_append, pf.1]; simp) (by omega)
  · rw [chL_app, if_pos rfl, g2, pf.1]
  · rw [List.map_append, map_up (chL_last g2), g4]
    show os ++ [va_up σ i (anS cs) i] = _
    rw [vs]
  · exact FI_app (fun c _ => rfl) (FI_up c2 g5 c5) c5
/-- what a ( means when it closes -/
theorem WS_any {K P F : List Nat} {N : Nat} {fr1 : FR} {D : DD} {j i : Nat} {os cs : List Sem} {p : Nat} (h : WS K P F N ((j + 1, i) :: fr1) ((os, cs) :: D)) (hc : chOk K P ((j + 1, i) :: fr1)) (hp : P[j]? = some p) (hpj : p ≠ j) (hpi : p ≠ i) (hpk : ∀ k, k < K.length → ¬ opN fr1 k → p ≠ k) : ∃ σ, (∀ k, k < K.length → ¬ opN fr1 k → ClN K P F N σ k) ∧ σ j = orS (os ++ [anS cs]) ∧ (fr1.length ≠ 0 → FI P σ fr1 D [j]) := by
  obtain ⟨pf, σ, h1, ⟨l, l', g1, g2, g3, g4⟩, g5⟩ := h
  obtain ⟨c1, c2, c3, c4, c5, c6⟩ := par_lt hc
  rw [List.append_nil] at g1
  have jl : j < K.length := by
    obtain ⟨q, _⟩ := List.getElem?_eq_some_iff.mp c4
    exact q
  refine ⟨va_up (va_up σ i (anS cs)) j (orS (os ++ [anS cs])), fun k hk hn => ?_, vs _ _ _, fun hf => ?_⟩
  · by_cases ej : k = j
    · subst ej
      refine ⟨0, BAD32, c4, pf.2.2.2.2 k hk (by rw [c4]; exact fun q => by cases q), by omega, ?_, fun q => by omega, fun q => by omega, fun _ => rfl⟩
      have nj : k ∉ l' ++ [i] := by
        intro q
        rw [← g2, mem_chL, hp] at q
        cases q
        exact hpj rfl
      rw [vs, g2, map_up nj, List.map_append, map_up (chL_last g2), g4]
      show orS (os ++ [anS cs]) = orS (os ++ [va_up σ i (anS cs) i])
      rw [vs]
    · refine ClN_up ?_ ej hp (hpk k hk hn)
      by_cases ei : k = i
      · subst ei
        exact ClN_all pf c1 c2 c3 g1 g3
      · refine ClN_up (h1 k hk (fun q => ?_)) ei c2 (fun q => ej q.symm)
        rcases opN_cons.mp q with q | q | q
        · exact ei q.symm
        · exact ej (by simpa using q.symm)
        · exact hn q
  · obtain ⟨k1, k2, k3⟩ := c6 hf
    exact FI_up2 k1 k2 (FI_up c2 g5 c5)
theorem WS_close {K P F : List Nat} {N : Nat} {fr1 : FR} {D : DD} {j i : Nat} {os cs : List Sem} (h : WS K P F N ((j + 1, i) :: fr1) ((os, cs) :: D)) (hc : chOk K P ((j + 1, i) :: fr1)) (hf : fr1.length ≠ 0) : WS K P F N (dn fr1) (attD fr1 D (orS (os ++ [anS cs]))) := by
  obtain ⟨c1, c2, c3, c4, c5, c6⟩ := par_lt hc
  obtain ⟨k1, k2, k3⟩ := c6 hf
  have pf := h.1
  obtain ⟨σ, s1, s2, s3⟩ := WS_any h hc k2 (by omega) (by omega) (fun k _ hn q => by
    obtain ⟨v, fr2, rfl⟩ := chOk_ne k1
    exact hn (q ▸ opN_hd))
  refine ⟨pf, WS_att pf.2.1 (fun k hk => ?_) k1 k2 k3 s1 (s3 hf) s2⟩
  obtain ⟨q, _⟩ := List.getElem?_eq_some_iff.mp hk
  exact pf.2.2.2.2 k q (by rw [hk]; exact fun q => by cases q)
/-- all nodes are closed: what the query means -/
def WE (K P F : List Nat) (N : Nat) (S : Sem) : Prop := PF K P F ∧ K[0]? = some 0 ∧ ∃ σ, (∀ k, k < K.length → ClN K P F N σ k) ∧ σ 0 = S
theorem WS_fin {K P F : List Nat} {N : Nat} {j i : Nat} {os cs : List Sem} (h : WS K P F N [(j + 1, i)] [(os, cs)]) (hc : chOk K P [(j + 1, i)]) (hl : K.length < 900) : WE K P F N (orS (os ++ [anS cs])) := by
  obtain ⟨c1, c2, c3, c4, c5, c6⟩ := par_lt hc
  have j0 : j = 0 := hc.2.2.2.2
  subst j0
  have pf := h.1
  obtain ⟨il, _⟩ := List.getElem?_eq_some_iff.mp c1
  have bb : BAD32 = 4294967295 := rfl
  obtain ⟨σ, s1, s2, s3⟩ := WS_any h hc pf.2.2.2.1 (by decide) (by omega) (fun k hk _ => by omega)
  refine ⟨pf, c4, σ, fun k hk => s1 k hk (fun q => ?_), s2⟩
  obtain ⟨w, hw, _⟩ := q
  cases hw
theorem qStep_ws {qb : List Nat} {Q : CT} {fr : FR} {D : DD} {c : Nat} (w : WfQ qb Q fr) (hD : D.length = fr.length) (h : WS (Q.1 7) (Q.1 8) (Q.1 9) (Q.1 4).length fr D) (hc : qb[Q.2 10]? = some c) (ht : (qStep qb Q fr c).1 = true) : WS ((qStep qb Q fr c).2.1.1 7) ((qStep qb Q fr c).2.1.1 8) ((qStep qb Q fr c).2.1.1 9) ((qStep qb Q fr c).2.1.1 4).length (qStep qb Q fr c).2.2 (dStep Q fr D c) ∧ (dStep Q fr D c).length = (qStep qb Q fr c).2.2.length := by
  obtain ⟨ok, a5, a6, a4, a1, a8, a9, ch, a11, a12, a12', a13, a13', b7, b7'⟩ := w
  have l7 : (Q.1 7).length < 900 := by omega
  have atl : ∀ {fr : FR} {D : DD} {s : Sem}, chOk (Q.1 7) (Q.1 8) fr → D.length = fr.length → (attD fr D s).length = (dn fr).length := by
    intro fr D s hc hD
    obtain ⟨j', i', fr1, os', cs', D', g1, g2, g3, g4⟩ := dnD_ok hc hD
    rw [attD_eq g2, g1, List.length_cons, List.length_cons, g3]
  unfold qStep dStep at *
  by_cases e : Q.2 13 = 0
  · rw [if_pos e] at ht ⊢
    rw [if_pos e]
    obtain ⟨j, i, fr1, rfl, k1, k2, k3, k4, k5, k6⟩ := dn_par ch (a13' e)
    cases D with
    | nil => cases hD
    | cons p D =>
      obtain ⟨os, cs⟩ := p
      have hD2 : D.length = fr1.length := by simpa using hD
      have qJ : qJoint Q ((j + 1, i) :: fr1) c = if c = 41 then (if fr1.length = 0 then (false, Q, (j + 1, i) :: fr1) else (true, qEnd (Q.1, va_up (va_up (va_up Q.2 11 (hd fr1)) 12 (Q.2 12 - 1)) 10 (Q.2 10 + 1)) fr1, dn fr1)) else if c = 124 then (true, ((qNode Q 1 j BAD32).1, va_up (va_up (va_up Q.2 11 (Q.1 7).length) 13 1) 10 (Q.2 10 + 1)), (j + 1, (Q.1 7).length) :: fr1) else if c = 38 then (true, (Q.1, va_up (va_up Q.2 13 1) 10 (Q.2 10 + 1)), (j + 1, i) :: fr1) else (false, Q, (j + 1, i) :: fr1) := rfl
      rw [qJ] at ht ⊢
      show WS _ _ _ _ _ (if c = 41 then attD fr1 D (orS (os ++ [anS cs])) else if c = 124 then (os ++ [anS cs], []) :: D else (os, cs) :: D) ∧ (if c = 41 then attD fr1 D (orS (os ++ [anS cs])) else if c = 124 then (os ++ [anS cs], []) :: D else (os, cs) :: D).length = _
      by_cases e1 : c = 41
      · simp only [if_pos e1] at ht ⊢
        by_cases e2 : fr1.length = 0
        · rw [if_pos e2] at ht; cases ht
        · simp only [if_neg e2]
          exact ⟨WS_close h ch e2, atl (k6 e2).2.2 hD2⟩
      · simp only [if_neg e1] at ht ⊢
        by_cases e2 : c = 124
        · simp only [if_pos e2]
          exact ⟨WS_or h ch l7, by simp [hD2]⟩
        · simp only [if_neg e2] at ht ⊢
          by_cases e3 : c = 38
          · simp only [if_pos e3]
            exact ⟨h, hD⟩
          · rw [if_neg e3] at ht; cases ht
  · rw [if_neg e] at ht ⊢
    rw [if_neg e]
    unfold qOne at ht ⊢
    by_cases e1 : c = 33 ∨ c = 40
    · simp only [if_pos e1] at ht ⊢
      by_cases e2 : Q.2 12 < 8
      · simp only [if_pos e2]
        unfold qDeep
        by_cases e3 : c = 33
        · simp only [if_pos e3]
          refine ⟨?_, by simp [hD]⟩
          show WS (Q.1 7 ++ [2]) (Q.1 8 ++ [Q.2 11]) (Q.1 9 ++ [BAD32]) (Q.1 4).length ((0, (Q.1 7).length) :: fr) (([], []) :: D)
          rw [a11]
          exact WS_not h ch l7
        · simp only [if_neg e3]
          refine ⟨?_, by simp [hD]⟩
          show WS (Q.1 7 ++ [0] ++ [1]) (Q.1 8 ++ [Q.2 11] ++ [(Q.1 7).length]) (Q.1 9 ++ [BAD32] ++ [BAD32]) (Q.1 4).length (((Q.1 7).length + 1, (Q.1 7).length + 1) :: fr) (([], []) :: D)
          rw [a11]
          exact WS_par h ch l7
      · rw [if_neg e2] at ht; cases ht
    · simp only [if_neg e1] at ht ⊢
      by_cases e2 : 12 ≤ (Q.1 6).length
      · rw [if_pos e2] at ht; cases ht
      · simp only [if_neg e2] at ht ⊢
        by_cases e3 : (qLeaf qb Q c).1 = true
        · simp only [if_pos e3]
          obtain ⟨l1, l2, l3, l4⟩ := qLeaf_ok ok hc
          obtain ⟨x4, x5, x6, x1, x1', x10⟩ := l4 e3
          refine ⟨?_, atl ch hD⟩
          show WS ((qLeaf qb Q c).2.1 7 ++ [3]) ((qLeaf qb Q c).2.1 8 ++ [Q.2 11]) ((qLeaf qb Q c).2.1 9 ++ [((qLeaf qb Q c).2.1 6).length - 1]) ((qLeaf qb Q c).2.1 4).length (dn fr) (attD fr D (lfS (Q.1 4).length))
          rw [l2 7 (by omega), l2 8 (by omega), l2 9 (by omega), a11, x4, x6, a6, Nat.add_sub_cancel]
          exact WS_leaf h ch l7
        · rw [if_neg e3] at ht; cases ht
theorem Q0_ws (qb : List Nat) : WS ((Q0 qb).1 7) ((Q0 qb).1 8) ((Q0 qb).1 9) ((Q0 qb).1 4).length [(1, 1)] [([], [])] := by
  show WS [0, 1] [BAD32, 0] [BAD32, BAD32] 0 [(1, 1)] [([], [])]
  refine ⟨⟨rfl, rfl, fun c p hc hp => ?_, rfl, fun k hk _ => ?_⟩, fun _ => lfS 0, fun k hk hn => ?_, ⟨[], [], ?_, ?_, rfl, rfl⟩, trivial⟩
  · match c, hc, hp with
    | 0, hc, _ => exact absurd rfl hc
    | 1, _, hp => cases hp; omega
    | c + 2, _, hp => cases hp
  · match k, hk with
    | 0, _ => rfl
    | 1, _ => rfl
    | k + 2, hk => exact absurd hk (by simp)
  · exfalso
    match k, hk, hn with
    | 0, _, hn => exact hn ⟨(1, 1), by simp, Or.inr rfl⟩
    | 1, _, hn => exact hn ⟨(1, 1), by simp, Or.inl rfl⟩
    | k + 2, hk, _ => exact absurd hk (by simp)
  · decide
  · decide
theorem qgo_ws {qb : List Nat} : ∀ (r : Nat) (Q : CT) (fr : FR) (D : DD), WfQ qb Q fr → D.length = fr.length → WS (Q.1 7) (Q.1 8) (Q.1 9) (Q.1 4).length fr D → (qgo qb r Q fr D).1 = none → WfQ qb (qgo qb r Q fr D).2.1 (qgo qb r Q fr D).2.2.1 ∧ WE ((qgo qb r Q fr D).2.1.1 7) ((qgo qb r Q fr D).2.1.1 8) ((qgo qb r Q fr D).2.1.1 9) ((qgo qb r Q fr D).2.1.1 4).length (finS (qgo qb r Q fr D).2.2.2) := by
  intro r
  induction r with
  | zero => intro Q fr D w hD h hn; cases hn
  | succ r ih =>
    intro Q fr D w hD h hn
    rw [qgo] at hn ⊢
    by_cases e : qb.length ≤ (qSkip qb Q).2 10
    · simp only [if_pos e] at hn ⊢
      by_cases e2 : Q.2 13 = 0 ∧ fr.length = 1
      · refine ⟨qSkip_wf w, ?_⟩
        obtain ⟨ok, a5, a6, a4, a1, a8, a9, ch, a11, a12, a12', a13, a13', b7, b7'⟩ := w
        obtain ⟨j, i, fr1, rfl, k1, k2, k3, k4, k5, k6⟩ := dn_par ch (a13' e2.1)
        have f0 : fr1 = [] := by
          have := e2.2
          rw [List.length_cons] at this
          exact List.eq_nil_of_length_eq_zero (by omega)
        subst f0
        match D, hD, h with
        | [(os, cs)], _, h => exact WS_fin h ch (show (Q.1 7).length < 900 by omega)
      · rw [if_neg e2] at hn; cases hn
    · simp only [if_neg e] at hn ⊢
      have hlt : (qSkip qb Q).2 10 < qb.length := by omega
      have hc : qb[(qSkip qb Q).2 10]? = some (qb.getD ((qSkip qb Q).2 10) 0) := by rw [gD hlt]; exact List.getElem?_eq_getElem hlt
      by_cases T : (qStep qb (qSkip qb Q) fr (qb.getD ((qSkip qb Q).2 10) 0)).1 = true
      · simp only [if_pos T] at hn ⊢
        obtain ⟨w2, _⟩ := qStep_wf (qSkip_wf w) hc T
        obtain ⟨h2, hD2⟩ := qStep_ws (Q := qSkip qb Q) (qSkip_wf w) hD h hc T
        exact ih _ _ _ w2 hD2 h2 hn
      · rw [if_neg T] at hn; cases hn
theorem qread_we {bs : List Nat} (h : (qread bs).1 = none) : WfQ (bs.map lo) (qread bs).2.1 (qread bs).2.2.1 ∧ WE ((qread bs).2.1.1 7) ((qread bs).2.1.1 8) ((qread bs).2.1.1 9) ((qread bs).2.1.1 4).length (finS (qread bs).2.2.2) := qgo_ws _ _ _ _ (Q0_wf _) rfl (Q0_ws _) h
