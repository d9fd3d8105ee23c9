/-! EVALUATION: truth and light of the nodes, in the class -/
def bN (b : Bool) : Nat := if b = true then 1 else 0
theorem bN_le (b : Bool) : bN b ≤ 1 := by cases b <;> decide
theorem bN_or (a b : Bool) : bN a ||| bN b = bN (a || b) := by cases a <;> cases b <;> rfl
theorem bN_and (a b : Bool) : bN a &&& bN b = bN (a && b) := by cases a <;> cases b <;> rfl
theorem bN_not (a : Bool) : 1 - bN a = bN (!a) := by cases a <;> rfl
theorem bN_1 (a : Bool) : bN a = 1 ↔ a = true := by cases a <;> decide
theorem bN_0 (a : Bool) : bN a = 0 ↔ a = false := by cases a <;> decide
theorem nI_and (x y : Nat) : nI x &&& nI y = nI (x &&& y) := by
  apply b_ext
  intro i hi
  rw [b_and, bt_nI, bt_nI, bt_nI, Nat.testBit_and]
  simp [hi]
theorem map_set {n p : Nat} {f g : Nat → Nat} (h : ∀ k, k < n → k ≠ p → f k = g k) : ((List.range n).map f).set p (g p) = (List.range n).map g := by
  refine List.ext_getElem (by simp) (fun k h1 h2 => ?_)
  rw [List.length_set, List.length_map, List.length_range] at h1
  rw [List.getElem_set]
  split
  · rename_i e
    rw [List.getElem_map, List.getElem_range, e]
  · rename_i e
    rw [List.getElem_map, List.getElem_map, List.getElem_range]
    exact h k h1 (fun q => e q.symm)
theorem map_at {n k : Nat} {f : Nat → Nat} (h : k < n) : ((List.range n).map f).getD k 0 = f k := by
  rw [gD (by simpa using h), List.getElem_map, List.getElem_range]
/-- the children from m on -/
def flC (P : List Nat) (k m : Nat) : List Nat := (List.range' m (P.length - m)).filter (fun c => decide (P[c]? = some k))
theorem flC_0 (P : List Nat) (k : Nat) : flC P k 0 = chL P k := by
  unfold flC chL
  rw [List.range_eq_range', Nat.sub_zero]
theorem flC_n (P : List Nat) (k : Nat) : flC P k P.length = [] := by
  unfold flC
  rw [Nat.sub_self]; rfl
theorem flC_s {P : List Nat} {k m : Nat} (h : m < P.length) : flC P k m = if P[m]? = some k then m :: flC P k (m + 1) else flC P k (m + 1) := by
  unfold flC
  rw [show P.length - m = P.length - (m + 1) + 1 by omega, List.range'_succ, List.filter_cons]
  by_cases e : P[m]? = some k
  · rw [if_pos (by simpa using e), if_pos e]
  · rw [if_neg (by simpa using e), if_neg e]
theorem flC_own {K P F : List Nat} (pf : PF K P F) {k : Nat} (hk : k < K.length) (hn : K.length ≤ 400) : ∀ r m, m + r = k + 1 → flC P k m = flC P k (k + 1) := by
  intro r
  induction r with
  | zero => intro m h; rw [show m = k + 1 by omega]
  | succ r ih =>
    intro m h
    have h1 := pf.1
    rw [flC_s (by omega), if_neg, ih (m + 1) (by omega)]
    intro q
    by_cases e : m = 0
    · subst e
      rw [pf.2.2.2.1] at q
      have q : BAD32 = k := Option.some.inj q
      have bb : BAD32 = 4294967295 := rfl
      omega
    · have := pf.2.2.1 m k e q
      omega
/-- the truth of a node, of its children from m on -/
def TT (K F P : List Nat) (σ : Nat → Sem) (v : Nat → Bool) (k m : Nat) : Bool :=
  if K.getD k 0 = 3 then v (F.getD k 0) else if K.getD k 0 = 2 then (match flC P k m with | [] => false | c :: _ => !(σ c).1 v) else if K.getD k 0 = 1 then (flC P k m).all (fun c => (σ c).1 v) else (flC P k m).any (fun c => (σ c).1 v)
theorem TT_own {K P F : List Nat} {N : Nat} {σ : Nat → Sem} {v : Nat → Bool} (pf : PF K P F) (hn : K.length ≤ 400) {k : Nat} (hk : k < K.length) (h : ClN K P F N σ k) : TT K F P σ v k (k + 1) = (σ k).1 v := by
  obtain ⟨κ, φ, h1, h2, h3, h4, h5, h6, h7⟩ := h
  have e : flC P k (k + 1) = chL P k := by rw [← flC_0, flC_own pf hk hn (k + 1) 0 (by omega)]
  unfold TT
  rw [gDo h1, gDo h2, e, h4]
  unfold cmb
  by_cases c3 : κ = 3
  · rw [if_pos c3, if_pos c3]; rfl
  · rw [if_neg c3, if_neg c3]
    by_cases c2 : κ = 2
    · rw [if_pos c2, if_pos c2]
      have l1 := h5 c2
      match hc : chL P k, l1 with
      | [c], _ => rfl
    · rw [if_neg c2, if_neg c2]
      by_cases c1 : κ = 1
      · rw [if_pos c1, if_pos c1]
        show _ = ((chL P k).map σ).all (fun s => s.1 v)
        rw [List.all_map]; rfl
      · rw [if_neg c1, if_neg c1]
        show _ = ((chL P k).map σ).any (fun s => s.1 v)
        rw [List.any_map]; rfl
theorem TT_ne {K P F : List Nat} {σ : Nat → Sem} {v : Nat → Bool} {k m p : Nat} (hm : m < P.length) (hp : P[m]? = some p) (h : k ≠ p) : TT K F P σ v k m = TT K F P σ v k (m + 1) := by
  have e : flC P k m = flC P k (m + 1) := by
    rw [flC_s hm, if_neg (fun q => h (by rw [hp] at q; exact (Option.some.inj q).symm))]
  unfold TT
  rw [e]
/-- lit nodes -/
def ltF (K P : List Nat) (tr : Nat → Bool) : Nat → Nat → Bool
  | 0, _ => false
  | f + 1, k => if k = 0 then tr 0 else ltF K P tr f (P.getD k 0) && decide (K.getD (P.getD k 0) 0 ≠ 2) && tr k
theorem ltF_fuel {K P F : List Nat} (pf : PF K P F) {tr : Nat → Bool} : ∀ (b k f f' : Nat), k ≤ b → k < K.length → k < f → k < f' → ltF K P tr f k = ltF K P tr f' k := by
  intro b
  induction b with
  | zero =>
    intro k f f' hb hk h1 h2
    have k0 : k = 0 := by omega
    subst k0
    obtain ⟨f, rfl⟩ : ∃ g, f = g + 1 := ⟨f - 1, by omega⟩
    obtain ⟨f', rfl⟩ : ∃ g, f' = g + 1 := ⟨f' - 1, by omega⟩
    rfl
  | succ b ih =>
    intro k f f' hb hk h1 h2
    obtain ⟨f, rfl⟩ : ∃ g, f = g + 1 := ⟨f - 1, by omega⟩
    obtain ⟨f', rfl⟩ : ∃ g, f' = g + 1 := ⟨f' - 1, by omega⟩
    unfold ltF
    by_cases k0 : k = 0
    · rw [if_pos k0, if_pos k0]
    · have kl : k < P.length := by rw [pf.1]; exact hk
      have pk := pf.2.2.1 k (P.getD k 0) k0 (by rw [gD kl]; exact List.getElem?_eq_getElem kl)
      rw [if_neg k0, if_neg k0, ih (P.getD k 0) f f' (by omega) (by omega) (by omega) (by omega)]
def lit (K P : List Nat) (tr : Nat → Bool) (k : Nat) : Bool := ltF K P tr (k + 1) k
theorem lit_0 (K P : List Nat) (tr : Nat → Bool) : lit K P tr 0 = tr 0 := rfl
theorem lit_s {K P F : List Nat} (pf : PF K P F) {tr : Nat → Bool} {k : Nat} (hk : k < K.length) (k0 : k ≠ 0) : lit K P tr k = (lit K P tr (P.getD k 0) && decide (K.getD (P.getD k 0) 0 ≠ 2) && tr k) ∧ P.getD k 0 < k := by
  have kl : k < P.length := by rw [pf.1]; exact hk
  have pk := pf.2.2.1 k (P.getD k 0) k0 (by rw [gD kl]; exact List.getElem?_eq_getElem kl)
  refine ⟨?_, pk⟩
  unfold lit
  conv => lhs; unfold ltF
  rw [if_neg k0, ltF_fuel pf (P.getD k 0) (P.getD k 0) k (P.getD k 0 + 1) (Nat.le_refl _) (by omega) pk (by omega)]
theorem lit_tr {K P F : List Nat} (pf : PF K P F) {tr : Nat → Bool} {k : Nat} (hk : k < K.length) (h : lit K P tr k = true) : tr k = true := by
  by_cases k0 : k = 0
  · subst k0; exact h
  · rw [(lit_s pf hk k0).1, Bool.and_eq_true] at h
    exact h.2
theorem Nrm_all {K P F : List Nat} {N : Nat} {σ : Nat → Sem} (pf : PF K P F) (hn : K.length ≤ 400) (h : ∀ k, k < K.length → ClN K P F N σ k) : ∀ r k, k + r = K.length → k < K.length → Nrm (σ k) := by
  intro r
  induction r using Nat.strongRecOn with
  | ind r ih =>
    intro k hr hk
    obtain ⟨κ, φ, h1, h2, h3, h4, h5, h6, h7⟩ := h k hk
    rw [h4]
    unfold cmb
    split
    · exact Nrm.lf _
    · split
      · exact Nrm.nt _
      · split
        · exact Nrm.a _
        · refine Nrm.o (fun s hs => ?_)
          obtain ⟨c, hc, rfl⟩ := List.mem_map.mp hs
          rw [mem_chL] at hc
          obtain ⟨cl, _⟩ := List.getElem?_eq_some_iff.mp hc
          have p1 := pf.1
          by_cases c0 : c = 0
          · subst c0
            rw [pf.2.2.2.1] at hc
            have q : BAD32 = k := Option.some.inj hc
            have bb : BAD32 = 4294967295 := rfl
            omega
          · have := pf.2.2.1 c k c0 hc
            exact ih (K.length - c) (by omega) c (by omega) (by omega)
/-- the lit leaves are those of the meaning -/
theorem lit_sem {K P F : List Nat} {N : Nat} {σ : Nat → Sem} {v : Nat → Bool} (pf : PF K P F) (hn : K.length ≤ 400) (hpos : 0 < K.length) (h : ∀ k, k < K.length → ClN K P F N σ k) (l : Nat) (hl : l < N) (hN : N ≤ 12) : (List.range K.length).any (fun k => lit K P (fun k => (σ k).1 v) k && decide (F.getD k 0 = l)) = ((σ 0).1 v && (σ 0).2 v l) := by
  have p1 := pf.1
  have bb : BAD32 = 4294967295 := rfl
  have child : ∀ c k : Nat, P[c]? = some k → k < K.length → c ≠ 0 ∧ k < c ∧ c < K.length := by
    intro c k hc hk
    obtain ⟨cl, _⟩ := List.getElem?_eq_some_iff.mp hc
    by_cases c0 : c = 0
    · subst c0
      rw [pf.2.2.2.1] at hc
      have q : BAD32 = k := Option.some.inj hc
      omega
    · exact ⟨c0, pf.2.2.1 c k c0 hc, by omega⟩
  -- down
  have down : ∀ r k, k + r = K.length → k < K.length → lit K P (fun k => (σ k).1 v) k = true → (σ k).2 v l = true → ∃ q, q < K.length ∧ lit K P (fun k => (σ k).1 v) q = true ∧ F.getD q 0 = l := by
    intro r
    induction r using Nat.strongRecOn with
    | ind r ih =>
      intro k hr hk hlit hs
      obtain ⟨κ, φ, h1, h2, h3, h4, h5, h6, h7⟩ := h k hk
      rw [h4] at hs
      unfold cmb at hs
      by_cases c3 : κ = 3
      · rw [if_pos c3] at hs
        unfold lfS at hs
        simp only [Bool.and_eq_true, decide_eq_true_eq] at hs
        exact ⟨k, hk, hlit, by rw [gDo h2]; exact hs.2.symm⟩
      · rw [if_neg c3] at hs
        by_cases c2 : κ = 2
        · rw [if_pos c2] at hs; cases hs
        · rw [if_neg c2] at hs
          have go : ∀ c, P[c]? = some k → (σ c).1 v = true → (σ c).2 v l = true → ∃ q, q < K.length ∧ lit K P (fun k => (σ k).1 v) q = true ∧ F.getD q 0 = l := by
            intro c hc ht hs
            obtain ⟨c0, ck, cl⟩ := child c k hc hk
            refine ih (K.length - c) (by omega) c (by omega) cl ?_ hs
            rw [(lit_s pf cl c0).1, gDo hc, hlit, gDo h1, decide_eq_true c2, ht]; rfl
          by_cases c1 : κ = 1
          · rw [if_pos c1] at hs
            unfold anS at hs
            simp only [Bool.and_eq_true] at hs
            obtain ⟨s, hsm, hs2⟩ := List.any_eq_true.mp hs.2
            obtain ⟨c, hc, rfl⟩ := List.mem_map.mp hsm
            have ht := List.all_eq_true.mp hs.1 _ hsm
            exact go c (mem_chL.mp hc) ht hs2
          · rw [if_neg c1] at hs
            unfold orS at hs
            obtain ⟨s, hsm, hs2⟩ := List.any_eq_true.mp hs
            obtain ⟨c, hc, rfl⟩ := List.mem_map.mp hsm
            obtain ⟨c0, ck, cl⟩ := child c k (mem_chL.mp hc) hk
            exact go c (mem_chL.mp hc) (Nrm_all pf hn h (K.length - c) c (by omega) cl v l hs2) hs2
  -- up
  have up : ∀ b k, k ≤ b → k < K.length → lit K P (fun k => (σ k).1 v) k = true → (σ k).2 v l = true → (σ 0).2 v l = true ∧ (σ 0).1 v = true := by
    intro b
    induction b with
    | zero =>
      intro k hb hk hlit hs
      have k0 : k = 0 := by omega
      subst k0
      exact ⟨hs, hlit⟩
    | succ b ih =>
      intro k hb hk hlit hs
      by_cases k0 : k = 0
      · subst k0
        exact ⟨hs, hlit⟩
      · obtain ⟨e1, e2⟩ := lit_s pf (tr := fun k => (σ k).1 v) hk k0
        rw [e1] at hlit
        simp only [Bool.and_eq_true, decide_eq_true_eq] at hlit
        obtain ⟨⟨l1, l2⟩, l3⟩ := hlit
        have kl : k < P.length := by omega
        have hc : P[k]? = some (P.getD k 0) := by rw [gD kl]; exact List.getElem?_eq_getElem kl
        have pl : P.getD k 0 < K.length := by omega
        refine ih (P.getD k 0) (by omega) pl l1 ?_
        have tp := lit_tr pf pl l1
        obtain ⟨κ, φ, h1, h2, h3, h4, h5, h6, h7⟩ := h (P.getD k 0) pl
        rw [gDo h1] at l2
        have hm : σ k ∈ (chL P (P.getD k 0)).map σ := List.mem_map_of_mem (mem_chL.mpr hc)
        have tp : (σ (P.getD k 0)).1 v = true := tp
        rw [h4] at tp ⊢
        unfold cmb at tp ⊢
        by_cases c3 : κ = 3
        · exfalso
          have := (h6 c3).2
          have hq := mem_chL.mpr hc
          rw [this] at hq
          cases hq
        · rw [if_neg c3] at tp ⊢
          rw [if_neg l2] at tp ⊢
          by_cases c1 : κ = 1
          · rw [if_pos c1] at tp ⊢
            unfold anS at tp ⊢
            simp only [Bool.and_eq_true]
            exact ⟨tp, List.any_eq_true.mpr ⟨_, hm, hs⟩⟩
          · rw [if_neg c1]
            unfold orS
            exact List.any_eq_true.mpr ⟨_, hm, hs⟩
  rw [Bool.eq_iff_iff]
  constructor
  · intro q
    obtain ⟨k, hk, hq⟩ := List.any_eq_true.mp q
    rw [List.mem_range] at hk
    simp only [Bool.and_eq_true, decide_eq_true_eq] at hq
    obtain ⟨κ, φ, h1, h2, h3, h4, h5, h6, h7⟩ := h k hk
    rw [gDo h2] at hq
    have k3 : κ = 3 := by
      by_cases c3 : κ = 3
      · exact c3
      · have := h7 c3
        omega
    have tk := lit_tr pf hk hq.1
    have tk : (σ k).1 v = true := tk
    have s2 : (σ k).2 v l = true := by
      rw [h4] at tk ⊢
      unfold cmb at tk ⊢
      rw [if_pos k3] at tk ⊢
      unfold lfS at tk ⊢
      simp only [Bool.and_eq_true, decide_eq_true_eq]
      exact ⟨tk, hq.2.symm⟩
    obtain ⟨u1, u2⟩ := up k k (Nat.le_refl _) hk hq.1 s2
    rw [u1, u2]; rfl
  · intro q
    simp only [Bool.and_eq_true] at q
    obtain ⟨k, k1, k2, k3⟩ := down K.length 0 (by omega) hpos q.1 q.2
    exact List.any_eq_true.mpr ⟨k, List.mem_range.mpr k1, by rw [k2, decide_eq_true k3]; rfl⟩
