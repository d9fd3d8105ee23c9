/-! THE REFERENCE'S QUERY: its nodes, as a stack of what they mean -/
def meq (N : Nat) (K A B : List Nat) (TS : List Sem) (k : Nat) : Prop :=
  (K[k]? = some 0 ∧ ∃ a, A[k]? = some a ∧ a < N ∧ TS[k]? = some (lfS a)) ∨
  (K[k]? = some 1 ∧ ∃ a s, A[k]? = some a ∧ a < k ∧ TS[a]? = some s ∧ TS[k]? = some (ntS s)) ∨
  (K[k]? = some 2 ∧ ∃ a b s t, A[k]? = some a ∧ B[k]? = some b ∧ a < k ∧ b < k ∧ TS[a]? = some s ∧ TS[b]? = some t ∧ TS[k]? = some (anS [s, t])) ∨
  (K[k]? = some 3 ∧ ∃ a b s t, A[k]? = some a ∧ B[k]? = some b ∧ a < k ∧ b < k ∧ TS[a]? = some s ∧ TS[b]? = some t ∧ TS[k]? = some (orS [s, t]))
theorem app_atG {α : Type} {l m : List α} {i : Nat} {k : α} (h : l[i]? = some k) : (l ++ m)[i]? = some k := by
  obtain ⟨q, _⟩ := List.getElem?_eq_some_iff.mp h
  rw [List.getElem?_append_left q]; exact h
theorem app_newG {α : Type} (l : List α) (x : α) : (l ++ [x])[l.length]? = some x := by simp
theorem meq.app {N : Nat} {K A B : List Nat} {TS : List Sem} {k : Nat} (h : meq N K A B TS k) (x a b : Nat) (s : Sem) : meq N (K ++ [x]) (A ++ [a]) (B ++ [b]) (TS ++ [s]) k := by
  rcases h with ⟨h1, u, h2, h3, h4⟩ | ⟨h1, u, w, h2, h3, h4, h5⟩ | ⟨h1, u, v, w, y, h2, h3, h4, h5, h6, h7, h8⟩ | ⟨h1, u, v, w, y, h2, h3, h4, h5, h6, h7, h8⟩
  · exact Or.inl ⟨app_atG h1, u, app_atG h2, h3, app_atG h4⟩
  · exact Or.inr (Or.inl ⟨app_atG h1, u, w, app_atG h2, h3, app_atG h4, app_atG h5⟩)
  · exact Or.inr (Or.inr (Or.inl ⟨app_atG h1, u, v, w, y, app_atG h2, app_atG h3, h4, h5, app_atG h6, app_atG h7, app_atG h8⟩))
  · exact Or.inr (Or.inr (Or.inr ⟨app_atG h1, u, v, w, y, app_atG h2, app_atG h3, h4, h5, app_atG h6, app_atG h7, app_atG h8⟩))
/-- nodes K A B; on the stack (top first) dT, which mean ss -/
def MT (N : Nat) (K A B dT : List Nat) (ss : List Sem) : Prop := ∃ TS : List Sem, TS.length = K.length ∧ A.length = K.length ∧ B.length = K.length ∧ (∀ k, k < K.length → meq N K A B TS k) ∧ dT.length ≤ K.length ∧ dT.map (fun i => TS[i]?) = ss.map some ∧ (∀ u dT', dT = u :: dT' → u + 1 = K.length)
theorem map_app {TS : List Sem} {s : Sem} : ∀ {dT : List Nat} {ss : List Sem}, dT.map (fun i => TS[i]?) = ss.map some → dT.map (fun i => (TS ++ [s])[i]?) = ss.map some := by
  intro dT
  induction dT with
  | nil => intro ss h; cases ss with
    | nil => rfl
    | cons x ss => cases h
  | cons d dT ih =>
    intro ss h
    cases ss with
    | nil => cases h
    | cons x ss =>
      simp only [List.map_cons, List.cons.injEq] at h ⊢
      exact ⟨app_atG h.1, ih h.2⟩
theorem MT.new {N : Nat} {K A B dT : List Nat} {ss : List Sem} {TS : List Sem} {x a b : Nat} {s : Sem} (h1 : TS.length = K.length) (h2 : A.length = K.length) (h3 : B.length = K.length) (h4 : ∀ k, k < K.length → meq N K A B TS k) (h5 : dT.length ≤ K.length) (h6 : dT.map (fun i => TS[i]?) = ss.map some) (h7 : meq N (K ++ [x]) (A ++ [a]) (B ++ [b]) (TS ++ [s]) K.length) : MT N (K ++ [x]) (A ++ [a]) (B ++ [b]) (K.length :: dT) (s :: ss) := by
  refine ⟨TS ++ [s], by simp [h1], by simp [h2], by simp [h3], fun k hk => ?_, by simp; exact h5, ?_, fun u dT' e => ?_⟩
  · rw [List.length_append] at hk
    simp only [List.length_cons, List.length_nil] at hk
    by_cases e : k = K.length
    · rw [e]; exact h7
    · exact (h4 k (by omega)).app _ _ _ _
  · simp only [List.map_cons, List.cons.injEq]
    exact ⟨by rw [← h1]; exact app_newG _ _, map_app h6⟩
  · simp only [List.cons.injEq] at e
    rw [← e.1, List.length_append]; rfl
theorem meq.mono {N N' : Nat} (hN : N ≤ N') {K A B : List Nat} {TS : List Sem} {k : Nat} (h : meq N K A B TS k) : meq N' K A B TS k := by
  rcases h with ⟨h1, u, h2, h3, h4⟩ | h | h | h
  · exact Or.inl ⟨h1, u, h2, by omega, h4⟩
  · exact Or.inr (Or.inl h)
  · exact Or.inr (Or.inr (Or.inl h))
  · exact Or.inr (Or.inr (Or.inr h))
theorem MT.leaf {N N' : Nat} {K A B dT : List Nat} {ss : List Sem} (h : MT N K A B dT ss) {a : Nat} (ha : a < N') (hN : N ≤ N') : MT N' (K ++ [0]) (A ++ [a]) (B ++ [0]) (K.length :: dT) (lfS a :: ss) := by
  obtain ⟨TS, h1, h2, h3, h4, h5, h6, _⟩ := h
  refine MT.new h1 h2 h3 (fun k hk => (h4 k hk).mono hN) h5 h6 (Or.inl ⟨app_newG _ _, a, ?_, ha, ?_⟩)
  · rw [← h2]; exact app_newG _ _
  · rw [← h1]; exact app_newG _ _
theorem MT.not {N : Nat} {K A B dT : List Nat} {ss : List Sem} {u : Nat} {s : Sem} (h : MT N K A B (u :: dT) (s :: ss)) : MT N (K ++ [1]) (A ++ [u]) (B ++ [0]) (K.length :: dT) (ntS s :: ss) := by
  obtain ⟨TS, h1, h2, h3, h4, h5, h6, _⟩ := h
  simp only [List.map_cons, List.cons.injEq] at h6
  rw [List.length_cons] at h5
  have ul : u < K.length := by
    obtain ⟨q, _⟩ := List.getElem?_eq_some_iff.mp h6.1
    omega
  refine MT.new h1 h2 h3 h4 (by omega) h6.2 (Or.inr (Or.inl ⟨app_newG _ _, u, s, ?_, ul, app_atG h6.1, ?_⟩))
  · rw [← h2]; exact app_newG _ _
  · rw [← h1]; exact app_newG _ _
theorem MT.join {N : Nat} {K A B dT : List Nat} {ss : List Sem} {u w : Nat} {s t : Sem} (h : MT N K A B (w :: u :: dT) (t :: s :: ss)) {op : Nat} (ho : op = 2 ∨ op = 3) : MT N (K ++ [op]) (A ++ [u]) (B ++ [w]) (K.length :: dT) ((if op = 2 then anS [s, t] else orS [s, t]) :: ss) := by
  obtain ⟨TS, h1, h2, h3, h4, h5, h6, _⟩ := h
  simp only [List.map_cons, List.cons.injEq] at h6
  simp only [List.length_cons] at h5
  have wl : w < K.length := by
    obtain ⟨q, _⟩ := List.getElem?_eq_some_iff.mp h6.1
    omega
  have ul : u < K.length := by
    obtain ⟨q, _⟩ := List.getElem?_eq_some_iff.mp h6.2.1
    omega
  have ea : (A ++ [u])[K.length]? = some u := by rw [← h2]; exact app_newG _ _
  have eb : (B ++ [w])[K.length]? = some w := by rw [← h3]; exact app_newG _ _
  have et : ∀ s : Sem, (TS ++ [s])[K.length]? = some s := fun s => by rw [← h1]; exact app_newG _ _
  rcases ho with rfl | rfl
  · exact MT.new h1 h2 h3 h4 (by omega) h6.2.2 (Or.inr (Or.inr (Or.inl ⟨app_newG _ _, u, w, s, t, ea, eb, ul, wl, app_atG h6.2.1, app_atG h6.1, et _⟩)))
  · exact MT.new h1 h2 h3 h4 (by omega) h6.2.2 (Or.inr (Or.inr (Or.inr ⟨app_newG _ _, u, w, s, t, ea, eb, ul, wl, app_atG h6.2.1, app_atG h6.1, et _⟩)))
def Nrm (s : Sem) : Prop := ∀ v l, s.2 v l = true → s.1 v = true
theorem Nrm.lf (k : Nat) : Nrm (lfS k) := by
  intro v l h
  unfold lfS at h ⊢
  simp only [Bool.and_eq_true] at h
  exact h.1
theorem Nrm.nt (s : Sem) : Nrm (ntS s) := fun v l h => by cases h
theorem Nrm.a (cs : List Sem) : Nrm (anS cs) := by
  intro v l h
  unfold anS at h ⊢
  simp only [Bool.and_eq_true] at h
  exact h.1
theorem Nrm.o {os : List Sem} (h : ∀ s ∈ os, Nrm s) : Nrm (orS os) := by
  intro v l q
  unfold orS at q ⊢
  simp only [List.any_eq_true] at q ⊢
  obtain ⟨s, hs, q⟩ := q
  exact ⟨s, hs, h s hs v l q⟩
theorem Nrm.n {s : Sem} (h : Nrm s) : ∀ fr : FR, Nrm (ntN fr s) := by
  intro fr
  induction fr generalizing s with
  | nil => exact h
  | cons v fr ih =>
    obtain ⟨j, i⟩ := v
    cases j with
    | zero => exact ih (Nrm.nt s)
    | succ j => exact h
theorem anS_1 {s : Sem} (h : Nrm s) : anS [s] = s := by
  unfold anS
  refine Prod.ext (funext fun v => ?_) (funext fun v => funext fun l => ?_)
  · simp
  · have := h v l
    cases h1 : s.1 v <;> cases h2 : s.2 v l <;> simp_all
theorem anS_app (cs : List Sem) (s : Sem) : anS [anS cs, s] = anS (cs ++ [s]) := by
  unfold anS
  refine Prod.ext (funext fun v => ?_) (funext fun v => funext fun l => ?_)
  · simp
  · simp only [List.all_cons, List.all_nil, Bool.and_true, List.any_cons, List.any_nil, Bool.or_false, List.all_append, List.any_append]
    cases cs.all (fun s => s.1 v) <;> cases s.1 v <;> simp
theorem orS_1 (s : Sem) : orS [s] = s := by
  unfold orS
  refine Prod.ext (funext fun v => ?_) (funext fun v => funext fun l => ?_) <;> simp
theorem orS_app (os : List Sem) (s : Sem) : orS [orS os, s] = orS (os ++ [s]) := by
  unfold orS
  refine Prod.ext (funext fun v => ?_) (funext fun v => funext fun l => ?_) <;> simp
/-- the joints that wait in a frame, and what they wait with -/
def jn (os cs : List Sem) : List Nat := (if cs = [] then [] else [2]) ++ (if os = [] then [] else [3])
def js (os cs : List Sem) : List Sem := (if cs = [] then [] else [anS cs]) ++ (if os = [] then [] else [orS os])
def wOps : FR → DD → List Nat
  | (0, _) :: fr, _ :: D => 1 :: wOps fr D
  | [(_ + 1, _)], (os, cs) :: _ => jn os cs
  | (_ + 1, _) :: v :: fr, (os, cs) :: D => jn os cs ++ 4 :: wOps (v :: fr) D
  | _, _ => []
def wSem : FR → DD → List Sem
  | (0, _) :: fr, _ :: D => wSem fr D
  | (_ + 1, _) :: fr, (os, cs) :: D => js os cs ++ wSem fr D
  | _, _ => []
def RM (K A B dT op : List Nat) (f : Nat → Int32) (Al : Nat → List Nat) : Prop := f 59 = nI K.length ∧ f 66 = nI dT.length ∧ f 64 = nI op.length ∧ Al 181 = K ∧ Al 182 = A ∧ Al 183 = B ∧ Al 185 = dT.reverse ∧ Al 184 = op.reverse
section
variable {L d : Nat} {z : zS}
theorem m125 {K A B dT op : List Nat} {f : Nat → Int32} {J : Nat → Nat → Int32} {Al : Nat → List Nat} (h : RM K A B dT op f Al) (lA : A.length = K.length) (lB : B.length = K.length) (lK : K.length < 200) (lD : dT.length < 200) (k a b : Nat) : ∃ f' Al', FrM [59, 66] [181, 182, 183, 185] f J Al f' J Al' ∧ zden L (d + 1) 125 [.ref 136, .int (nI k), .int (nI a), .int (nI b)] (ms z f J Al) = some (0, ms z f' J Al') ∧ RM (K ++ [k]) (A ++ [a]) (B ++ [b]) (K.length :: dT) op f' Al' := by
  obtain ⟨h1, h2, h3, h4, h5, h6, h7, h8⟩ := h
  refine ⟨va_up (va_up f 66 (nI (dT.length + 1))) 59 (nI (K.length + 1)), va_up (va_up (va_up (va_up Al 181 (K ++ [k])) 182 (A ++ [a])) 183 (B ++ [b])) 185 (dT.reverse ++ [K.length]), ?_, ?_, ?_⟩
  · exact ((((((FrM.f (by simp)).trans (FrM.f (by simp))).trans (FrM.a (by simp))).trans (FrM.a (by simp))).trans (FrM.a (by simp))).trans (FrM.a (by simp)))
  · rw [N125 _ _ _ _ ob136, B125_0, J136_60, Option.bind_some, M59r, Option.bind_some, h1, A181 _ (by rw [h4]) lK, Option.bind_some, h4, J136_61, Option.bind_some, M59r, Option.bind_some, h1, A182 _ (by rw [vn _ _ (by omega), h5, lA]) lK, Option.bind_some, vn _ _ (by omega), h5, J136_62, Option.bind_some, M59r, Option.bind_some, h1, A183 _ (by rw [vn _ _ (by omega), vn _ _ (by omega), h6, lB]) lK, Option.bind_some, vn _ _ (show 183 ≠ 182 by omega), vn _ _ (show 183 ≠ 181 by omega), h6, J136_65, Option.bind_some, M66r, Option.bind_some, h2, M59r, Option.bind_some, h1, A185 _ (by rw [vn _ _ (by omega), vn _ _ (by omega), vn _ _ (by omega), h7, List.length_reverse]) lD, Option.bind_some, vn _ _ (show 185 ≠ 183 by omega), vn _ _ (show 185 ≠ 182 by omega), vn _ _ (show 185 ≠ 181 by omega), h7, M66r, Option.bind_some, h2, nI_add, M66p, Option.bind_some, M59r, Option.bind_some, vn _ _ (by omega), h1, nI_add, M59p, Option.bind_some]
  · refine ⟨?_, ?_, ?_, ?_, ?_, ?_, ?_, ?_⟩
    · rw [vs, List.length_append]; rfl
    · rw [vn _ _ (by omega), vs, List.length_cons]
    · rw [vn _ _ (by omega), vn _ _ (by omega), h3]
    · simp (disch := omega) only [vn, vs]
    · simp (disch := omega) only [vn, vs]
    · simp (disch := omega) only [vn, vs]
    · rw [vs, List.reverse_cons]
    · simp (disch := omega) only [vn]; exact h8
/-- the tops of both stacks are taken away -/
theorem RM.pop {K A B dT op xs : List Nat} {y : Nat} {f : Nat → Int32} {J : Nat → Nat → Int32} {Al : Nat → List Nat} (h : RM K A B (xs ++ dT) (y :: op) f Al) : ∃ J' Al', FrM [64, 66] [184, 185] f J Al (va_up (va_up f 64 (nI op.length)) 66 (nI dT.length)) J' Al' ∧ ms z (va_up (va_up f 64 (nI op.length)) 66 (nI dT.length)) J Al = ms z (va_up (va_up f 64 (nI op.length)) 66 (nI dT.length)) J' Al' ∧ RM K A B dT op (va_up (va_up f 64 (nI op.length)) 66 (nI dT.length)) Al' := by
  obtain ⟨h1, h2, h3, h4, h5, h6, h7, h8⟩ := h
  obtain ⟨J1, j1, e1⟩ := ms_trunc (z := z) (f := va_up (va_up f 64 (nI op.length)) 66 (nI dT.length)) (A := J) (Al := Al) 184 op.length
  obtain ⟨J2, j2, e2⟩ := ms_trunc (z := z) (f := va_up (va_up f 64 (nI op.length)) 66 (nI dT.length)) (A := J1) (Al := va_up Al 184 ((Al 184).take op.length)) 185 dT.length
  refine ⟨J2, _, ?_, j1.trans j2, ?_⟩
  · exact (((FrM.f (by simp)).trans (FrM.f (by simp))).trans (FrM.j (by rw [e2, e1]))).trans ((FrM.a (by simp)).trans (FrM.a (by simp)))
  · have t8 : (Al 184).take op.length = op.reverse := by
      rw [h8, List.reverse_cons, List.take_append_of_le_length (by simp)]
      rw [show op.length = op.reverse.length by simp, List.take_length]
    have t7 : (Al 185).take dT.length = dT.reverse := by
      rw [h7, List.reverse_append, List.take_append_of_le_length (by simp)]
      rw [show dT.length = dT.reverse.length by simp, List.take_length]
    refine ⟨?_, ?_, ?_, ?_, ?_, ?_, ?_, ?_⟩
    · rw [vn _ _ (by omega), vn _ _ (by omega), h1]
    · rw [vs]
    · rw [vn _ _ (by omega), vs]
    · simp (disch := omega) only [vn]; exact h4
    · simp (disch := omega) only [vn]; exact h5
    · simp (disch := omega) only [vn]; exact h6
    · rw [vs, vn _ _ (by omega), t7]
    · rw [vn _ _ (by omega), vs, t8]
theorem RM.top {K A B dT op : List Nat} {y : Nat} {f : Nat → Int32} {J : Nat → Nat → Int32} {Al : Nat → List Nat} (h : RM K A B dT (y :: op) f Al) (hl : op.length < 200) : (O2 L).2.2.2.2.2.1 (ms z f J Al) 0 184 (nI (y :: op).length - nI 1) = some (nI y) := by
  obtain ⟨h1, h2, h3, h4, h5, h6, h7, h8⟩ := h
  rw [List.length_cons, pk_sub (by omega), Nat.add_sub_cancel, L184 (by rw [h8]; simp) hl, h8, List.reverse_cons]
  congr 2
  simp [List.getD]
end
