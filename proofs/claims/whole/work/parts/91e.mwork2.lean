/-! EVALUATION: the nodes in the reference, and work -/
def trT (TS : List Sem) (v : Nat → Bool) (k : Nat) : Bool := (TS.getD k (lfS 0)).1 v
theorem trT_at {TS : List Sem} {v : Nat → Bool} {k : Nat} {s : Sem} (h : TS[k]? = some s) : trT TS v k = s.1 v := by
  unfold trT
  rw [List.getD, h]; rfl
section
variable {L d : Nat} {z : zS} {f : Nat → Int32}
/-- truth of the nodes -/
theorem m141_nodes {N : Nat} {v : Nat → Bool} {J : Nat → Nat → Int32} {Al : Nat → List Nat} {TS : List Sem} (h30 : f 30 = nI (Al 159).length) (n200 : (Al 159).length ≤ 200) (lT : TS.length = (Al 159).length) (lA : (Al 160).length = (Al 159).length) (lB : (Al 161).length = (Al 159).length) (hq : ∀ k, k < (Al 159).length → meq N (Al 159) (Al 160) (Al 161) TS k) (hN : N ≤ 12) (h164 : Al 164 = (List.range N).map (fun l => bN (v l))) (v2 : Value) :
    ∃ J' v2', J' 0 = J 0 ∧ xruns (O2 L) (zden L (d + 5)) 141 130 [.ref 136, .int (nI 0), v2] [] (ms z f J Al) = xruns (O2 L) (zden L (d + 5)) 141 286 [.ref 136, .int (nI (Al 159).length), v2'] [] (ms z f J' (va_up (va_up Al 162 ((List.range (Al 159).length).map (fun k => bN (trT TS v k)))) 163 (List.replicate (Al 159).length 0))) := by
  obtain ⟨J1, Al1, k1, k2, k3, k4⟩ := ms_forgetL (z := z) (f := f) [162, 163] J Al
  have kv : ∀ (A B : List Nat) (a : Nat), a ∉ [162, 163] → va_up (va_up Al1 162 A) 163 B a = Al a := fun A B a ha => by
    have h1 : a ≠ 163 := fun q => ha (by simp [q])
    have h2 : a ≠ 162 := fun q => ha (by simp [q])
    rw [vn _ _ h1, vn _ _ h2, k4 a ha]
  have loop : ∀ (r k : Nat) (v2 : Value), k + r = (Al 159).length → ∃ v2', xruns (O2 L) (zden L (d + 5)) 141 130 [.ref 136, .int (nI k), v2] [] (ms z f J1 (va_up (va_up Al1 162 ((List.range k).map (fun k => bN (trT TS v k)))) 163 (List.replicate k 0))) = xruns (O2 L) (zden L (d + 5)) 141 286 [.ref 136, .int (nI (Al 159).length), v2'] [] (ms z f J1 (va_up (va_up Al1 162 ((List.range (Al 159).length).map (fun k => bN (trT TS v k)))) 163 (List.replicate (Al 159).length 0))) := by
    intro r
    induction r with
    | zero =>
      intro k v2 hk
      have : k = (Al 159).length := by omega
      subst this
      exact ⟨v2, by rw [B141_130, M30r, Option.bind_some, h30, iL (by omega) (by omega), if_pos (Nat.le_refl _)]⟩
    | succ r ih =>
      intro k v2 hk
      have kl : k < (Al 159).length := by omega
      have rs : List.replicate k 0 ++ [0] = List.replicate (k + 1) 0 := by rw [List.replicate_succ']
      -- store and go on
      have e279 : ∀ (b : Bool) (x2 : Int32), b = trT TS v k → ∃ v2', xruns (O2 L) (zden L (d + 5)) 141 279 [.ref 136, .int (nI k), .int x2] [.int (nI (bN b)), .int (nI k), .ref 162] (ms z f J1 (va_up (va_up Al1 162 ((List.range k).map (fun k => bN (trT TS v k)))) 163 (List.replicate (k + 1) 0))) = xruns (O2 L) (zden L (d + 5)) 141 286 [.ref 136, .int (nI (Al 159).length), v2'] [] (ms z f J1 (va_up (va_up Al1 162 ((List.range (Al 159).length).map (fun k => bN (trT TS v k)))) 163 (List.replicate (Al 159).length 0))) := by
        intro b x2 hb
        have b01 : nI (bN b) = nI 0 ∨ nI (bN b) = nI 1 := by cases b; exact Or.inl rfl; exact Or.inr rfl
        obtain ⟨v2', e⟩ := ih (k + 1) (.int x2) (by omega)
        refine ⟨v2', ?_⟩
        rw [B141_279, if_pos b01, up_comm _ (show (162 : Nat) ≠ 163 by omega), A162 _ (by rw [vs, List.length_map, List.length_range]) (by omega), Option.bind_some, vs, vv, up_comm _ (show (163 : Nat) ≠ 162 by omega), nI_add, hb, mapS (fun k => bN (trT TS v k)) k]
        exact e
      have ld159 : ∀ (A B : List Nat) (x : Nat), (Al 159)[k]? = some x → (O2 L).2.2.2.2.2.1 (ms z f J1 (va_up (va_up Al1 162 A) 163 B)) 0 159 (nI k) = some (nI x) := fun A B x h => by
        rw [L159 (by rw [kv _ _ 159 (by simp)]; exact kl) (by omega), kv _ _ 159 (by simp), gDo h]
      have ld160 : ∀ (A B : List Nat) (x : Nat), (Al 160)[k]? = some x → (O2 L).2.2.2.2.2.1 (ms z f J1 (va_up (va_up Al1 162 A) 163 B)) 0 160 (nI k) = some (nI x) := fun A B x h => by
        rw [L160 (by rw [kv _ _ 160 (by simp)]; omega) (by omega), kv _ _ 160 (by simp), gDo h]
      have ld161 : ∀ (A B : List Nat) (x : Nat), (Al 161)[k]? = some x → (O2 L).2.2.2.2.2.1 (ms z f J1 (va_up (va_up Al1 162 A) 163 B)) 0 161 (nI k) = some (nI x) := fun A B x h => by
        rw [L161 (by rw [kv _ _ 161 (by simp)]; omega) (by omega), kv _ _ 161 (by simp), gDo h]
      have ld162 : ∀ (B : List Nat) (x : Nat), x < k → (O2 L).2.2.2.2.2.1 (ms z f J1 (va_up (va_up Al1 162 ((List.range k).map (fun k => bN (trT TS v k)))) 163 B)) 1 162 (nI x) = some (nI (bN (trT TS v x))) := fun B x h => by
        rw [L162 (by rw [vn _ _ (by omega), vs, List.length_map, List.length_range]; exact h) (by omega), vn _ _ (by omega), vs, map_at h]
      have e138 : ∀ x : Nat, (Al 159)[k]? = some x → x ≤ 3 → xruns (O2 L) (zden L (d + 5)) 141 130 [.ref 136, .int (nI k), v2] [] (ms z f J1 (va_up (va_up Al1 162 ((List.range k).map (fun k => bN (trT TS v k)))) 163 (List.replicate k 0))) = if x = 0 then xruns (O2 L) (zden L (d + 5)) 141 154 [.ref 136, .int (nI k), v2] [] (ms z f J1 (va_up (va_up Al1 162 ((List.range k).map (fun k => bN (trT TS v k)))) 163 (List.replicate (k + 1) 0))) else xruns (O2 L) (zden L (d + 5)) 141 168 [.ref 136, .int (nI k), v2] [] (ms z f J1 (va_up (va_up Al1 162 ((List.range k).map (fun k => bN (trT TS v k)))) 163 (List.replicate (k + 1) 0))) := by
        intro x hx hx3
        rw [B141_130, M30r, Option.bind_some, h30, iL (by omega) (by omega), if_neg (by omega), B141_138, J136_35, Option.bind_some, iO0, A163 0 (by rw [vs, List.length_replicate]) (by omega), Option.bind_some, vs, vv, rs, J136_31, Option.bind_some, ld159 _ _ x hx, Option.bind_some, iE (by omega) (by omega)]
      rcases hq k kl with ⟨h1, u, h2, h3, h4⟩ | ⟨h1, u, s, h2, h3, h4, h5⟩ | ⟨h1, u, w, s, t, h2, h3, h4, h5, h6, h7, h8⟩ | ⟨h1, u, w, s, t, h2, h3, h4, h5, h6, h7, h8⟩
      · have e164 : (O2 L).2.2.2.2.2.1 (ms z f J1 (va_up (va_up Al1 162 ((List.range k).map (fun k => bN (trT TS v k)))) 163 (List.replicate (k + 1) 0))) 1 164 (nI u) = some (nI (bN (v u))) := by
          rw [L164 (by rw [kv _ _ 164 (by simp), h164, List.length_map, List.length_range]; exact h3) (by omega), kv _ _ 164 (by simp), h164, map_at h3]
        rw [e138 0 h1 (by omega), if_pos rfl, B141_154, J136_37, Option.bind_some, J136_32, Option.bind_some, ld160 _ _ u h2, Option.bind_some, e164, Option.bind_some, B141_179, J136_34, Option.bind_some, J136_31, Option.bind_some, ld159 _ _ 0 h1, Option.bind_some, if_pos rfl, B141_194]
        exact e279 (v u) _ (by rw [trT_at h4]; rfl)
      · rw [e138 1 h1 (by omega), if_neg (by omega), B141_168, J136_34, Option.bind_some, J136_32, Option.bind_some, ld160 _ _ u h2, Option.bind_some, ld162 _ u h3, Option.bind_some, B141_179, J136_34, Option.bind_some, J136_31, Option.bind_some, ld159 _ _ 1 h1, Option.bind_some, if_neg (by decide), B141_198, J136_31, Option.bind_some, ld159 _ _ 1 h1, Option.bind_some, if_pos rfl, B141_208, trT_at h4]
        have bb := bN_le (s.1 v)
        rw [iE (by omega) (by omega)]
        by_cases c : bN (s.1 v) = 0
        · rw [if_pos c, B141_212]
          exact e279 true _ (by rw [trT_at h5]; show true = !s.1 v; rw [(bN_0 _).mp c]; rfl)
        · rw [if_neg c, B141_216]
          exact e279 false _ (by rw [trT_at h5]; show false = !s.1 v; rw [(bN_1 (s.1 v)).mp (by omega)]; rfl)
      · have bs := bN_le (s.1 v)
        have bt := bN_le (t.1 v)
        have own : trT TS v k = (s.1 v && t.1 v) := by
          rw [trT_at h8]
          show ([s, t] : List Sem).all (fun s => s.1 v) = _
          simp
        rw [e138 2 h1 (by omega), if_neg (by omega), B141_168, J136_34, Option.bind_some, J136_32, Option.bind_some, ld160 _ _ u h2, Option.bind_some, ld162 _ u h4, Option.bind_some, B141_179, J136_34, Option.bind_some, J136_31, Option.bind_some, ld159 _ _ 2 h1, Option.bind_some, if_neg (by decide), B141_198, J136_31, Option.bind_some, ld159 _ _ 2 h1, Option.bind_some, if_neg (by decide), B141_220, J136_31, Option.bind_some, ld159 _ _ 2 h1, Option.bind_some, if_pos rfl, B141_230, trT_at h6, iE (by omega) (by omega)]
        by_cases c : bN (s.1 v) = 0
        · rw [if_pos c, B141_252]
          exact e279 false _ (by rw [own, (bN_0 _).mp c]; rfl)
        · rw [if_neg c, B141_234, J136_34, Option.bind_some, J136_33, Option.bind_some, ld161 _ _ w h3, Option.bind_some, ld162 _ w h5, Option.bind_some, trT_at h7, iE (by omega) (by omega)]
          by_cases c2 : bN (t.1 v) = 0
          · rw [if_pos c2, B141_252]
            exact e279 false _ (by rw [own, (bN_0 _).mp c2, Bool.and_false])
          · rw [if_neg c2, B141_248]
            exact e279 true _ (by rw [own, (bN_1 (s.1 v)).mp (by omega), (bN_1 (t.1 v)).mp (by omega)]; rfl)
      · have bs := bN_le (s.1 v)
        have bt := bN_le (t.1 v)
        have own : trT TS v k = (s.1 v || t.1 v) := by
          rw [trT_at h8]
          show ([s, t] : List Sem).any (fun s => s.1 v) = _
          simp
        rw [e138 3 h1 (by omega), if_neg (by omega), B141_168, J136_34, Option.bind_some, J136_32, Option.bind_some, ld160 _ _ u h2, Option.bind_some, ld162 _ u h4, Option.bind_some, B141_179, J136_34, Option.bind_some, J136_31, Option.bind_some, ld159 _ _ 3 h1, Option.bind_some, if_neg (by decide), B141_198, J136_31, Option.bind_some, ld159 _ _ 3 h1, Option.bind_some, if_neg (by decide), B141_220, J136_31, Option.bind_some, ld159 _ _ 3 h1, Option.bind_some, if_neg (by decide), B141_256, trT_at h6, iE (by omega) (by omega)]
        by_cases c : bN (s.1 v) = 0
        · rw [if_pos c, B141_260, J136_34, Option.bind_some, J136_33, Option.bind_some, ld161 _ _ w h3, Option.bind_some, ld162 _ w h5, Option.bind_some, trT_at h7, iE (by omega) (by omega)]
          by_cases c2 : bN (t.1 v) = 0
          · rw [if_pos c2, B141_278]
            exact e279 false _ (by rw [own, (bN_0 _).mp c, (bN_0 _).mp c2]; rfl)
          · rw [if_neg c2, B141_274]
            exact e279 true _ (by rw [own, (bN_1 (t.1 v)).mp (by omega), Bool.or_true])
        · rw [if_neg c, B141_274]
          exact e279 true _ (by rw [own, (bN_1 (s.1 v)).mp (by omega), Bool.true_or])
  obtain ⟨v2', e⟩ := loop (Al 159).length 0 v2 (by omega)
  refine ⟨J1, v2', k2, ?_⟩
  have a1 : va_up (va_up Al1 162 []) 163 [] = Al1 := by
    have e1 : Al1 162 = [] := k3 162 (by simp)
    have e2 : Al1 163 = [] := k3 163 (by simp)
    have : va_up Al1 162 [] = Al1 := by rw [← e1, vi]
    rw [this]
    rw [← e2, vi]
  have a2 : ∀ A B : List Nat, va_up (va_up Al1 162 A) 163 B = va_up (va_up Al 162 A) 163 B := fun A B => by
    funext a
    by_cases h1 : a = 163
    · subst h1; rw [vs, vs]
    · rw [vn _ _ h1, vn _ _ h1]
      by_cases h2 : a = 162
      · subst h2; rw [vs, vs]
      · rw [vn _ _ h2, vn _ _ h2]
        exact k4 a (by simp; omega)
  have e' : xruns (O2 L) (zden L (d + 5)) 141 130 [.ref 136, .int (nI 0), v2] [] (ms z f J1 (va_up (va_up Al1 162 []) 163 [])) = xruns (O2 L) (zden L (d + 5)) 141 286 [.ref 136, .int (nI (Al 159).length), v2'] [] (ms z f J1 (va_up (va_up Al1 162 ((List.range (Al 159).length).map (fun k => bN (trT TS v k)))) 163 (List.replicate (Al 159).length 0))) := e
  rw [a1, a2] at e'
  rw [k1, e']
/-- light of the nodes -/
theorem m141_lit {N : Nat} {v : Nat → Bool} {J : Nat → Nat → Int32} {Al : Nat → List Nat} {TS : List Sem} {s : Sem} (h30 : f 30 = nI (Al 159).length) (n1 : 1 ≤ (Al 159).length) (n200 : (Al 159).length ≤ 200) (lT : TS.length = (Al 159).length) (lA : (Al 160).length = (Al 159).length) (lB : (Al 161).length = (Al 159).length) (hq : ∀ k, k < (Al 159).length → meq N (Al 159) (Al 160) (Al 161) TS k) (hN : N ≤ 12) (hS : TS[(Al 159).length - 1]? = some s) (h162 : Al 162 = (List.range (Al 159).length).map (fun k => bN (trT TS v k))) (h163 : Al 163 = List.replicate (Al 159).length 0) (h165 : Al 165 = List.replicate N 0) (x1 : Int32) (v2 : Value) :
    ∃ X x1', xruns (O2 L) (zden L (d + 5)) 141 286 [.ref 136, .int x1, v2] [] (ms z f J Al) = xruns (O2 L) (zden L (d + 5)) 141 419 [.ref 136, .int x1', v2] [] (ms z f J (va_up (va_up Al 163 X) 165 ((List.range N).map (fun l => bN (s.1 v && s.2 v l))))) := by
  have nrm := meq_nrm lT hq
  have ld159 : ∀ (A B : List Nat) (k x : Nat), (Al 159)[k]? = some x → (O2 L).2.2.2.2.2.1 (ms z f J (va_up (va_up Al 163 A) 165 B)) 0 159 (nI k) = some (nI x) := fun A B k x h => by
    obtain ⟨q, _⟩ := List.getElem?_eq_some_iff.mp h
    rw [L159 (by rw [vn _ _ (by omega), vn _ _ (by omega)]; exact q) (by omega), vn _ _ (by omega), vn _ _ (by omega), gDo h]
  have ld160 : ∀ (A B : List Nat) (k x : Nat), (Al 160)[k]? = some x → (O2 L).2.2.2.2.2.1 (ms z f J (va_up (va_up Al 163 A) 165 B)) 0 160 (nI k) = some (nI x) := fun A B k x h => by
    obtain ⟨q, _⟩ := List.getElem?_eq_some_iff.mp h
    rw [L160 (by rw [vn _ _ (by omega), vn _ _ (by omega)]; exact q) (by omega), vn _ _ (by omega), vn _ _ (by omega), gDo h]
  have ld161 : ∀ (A B : List Nat) (k x : Nat), (Al 161)[k]? = some x → (O2 L).2.2.2.2.2.1 (ms z f J (va_up (va_up Al 163 A) 165 B)) 0 161 (nI k) = some (nI x) := fun A B k x h => by
    obtain ⟨q, _⟩ := List.getElem?_eq_some_iff.mp h
    rw [L161 (by rw [vn _ _ (by omega), vn _ _ (by omega)]; exact q) (by omega), vn _ _ (by omega), vn _ _ (by omega), gDo h]
  have ld162 : ∀ (A B : List Nat) (x : Nat), x < (Al 159).length → (O2 L).2.2.2.2.2.1 (ms z f J (va_up (va_up Al 163 A) 165 B)) 1 162 (nI x) = some (nI (bN (trT TS v x))) := fun A B x h => by
    rw [L162 (by rw [vn _ _ (by omega), vn _ _ (by omega), h162, List.length_map, List.length_range]; exact h) (by omega), vn _ _ (by omega), vn _ _ (by omega), h162, map_at h]
  have ld163 : ∀ (g : Nat → Bool) (B : List Nat) (x : Nat), x < (Al 159).length → (O2 L).2.2.2.2.2.1 (ms z f J (va_up (va_up Al 163 ((List.range (Al 159).length).map (fun k => bN (g k)))) 165 B)) 1 163 (nI x) = some (nI (bN (g x))) := fun g B x h => by
    rw [L163 (by rw [vn _ _ (by omega), vs, List.length_map, List.length_range]; exact h) (by omega), vn _ _ (by omega), vs, map_at h]
  have st163 : ∀ (g : Nat → Bool) (B : List Nat) (x : Nat) (b : Bool), x < (Al 159).length → (O2 L).2.2.2.2.2.2.1 (ms z f J (va_up (va_up Al 163 ((List.range (Al 159).length).map (fun k => bN (g k)))) 165 B)) 1 163 (nI x) (nI (bN b)) = some (ms z f J (va_up (va_up Al 163 ((List.range (Al 159).length).map (fun k => bN (if k = x then b else g k)))) 165 B)) := fun g B x b h => by
    rw [up_comm _ (show (163 : Nat) ≠ 165 by omega), U163 _ (by rw [vs, List.length_map, List.length_range]; exact h) (by omega), vs, vv, set_bNv (g := fun k => if k = x then b else g k) b (fun k _ hne => by simp [hne]) (by simp), up_comm _ (show (165 : Nat) ≠ 163 by omega)]
  -- what is kept while the nodes from m on are done
  have loop : ∀ (m : Nat) (x1 : Int32) (g li : Nat → Bool), m ≤ (Al 159).length → x1 = nI m - nI 1 → (∀ k, k < (Al 159).length → g k = true → trT TS v k = true ∧ s.1 v = true ∧ ∀ l, (TS.getD k (lfS 0)).2 v l = true → s.2 v l = true) → (∀ l, li l = true → s.1 v = true ∧ s.2 v l = true) → (∀ l, s.1 v = true → s.2 v l = true → li l = true ∨ ∃ k, k < m ∧ g k = true ∧ (TS.getD k (lfS 0)).2 v l = true) →
      ∃ X x1', xruns (O2 L) (zden L (d + 5)) 141 322 [.ref 136, .int x1, v2] [] (ms z f J (va_up (va_up Al 163 ((List.range (Al 159).length).map (fun k => bN (g k)))) 165 ((List.range N).map (fun l => bN (li l))))) = xruns (O2 L) (zden L (d + 5)) 141 419 [.ref 136, .int x1', v2] [] (ms z f J (va_up (va_up Al 163 X) 165 ((List.range N).map (fun l => bN (s.1 v && s.2 v l))))) := by
    intro m
    induction m with
    | zero =>
      intro x1 g li hm hx hs hli hc
      refine ⟨(List.range (Al 159).length).map (fun k => bN (g k)), x1, ?_⟩
      have same : (List.range N).map (fun l => bN (li l)) = (List.range N).map (fun l => bN (s.1 v && s.2 v l)) := List.map_congr_left (fun l _ => by
        congr 1
        rw [Bool.eq_iff_iff, Bool.and_eq_true]
        constructor
        · exact hli l
        · intro q
          rcases hc l q.1 q.2 with q | ⟨k, hk, _⟩
          · exact q
          · omega)
      rw [B141_322, hx, if_pos (by decide), same]
    | succ m ih =>
      intro x1 g li hm hx hs hli hc
      have hx' : x1 = nI m := by rw [hx, pk_sub (by omega), Nat.add_sub_cancel]
      have ml : m < (Al 159).length := by omega
      have bg := bN_le (g m)
      have next : ∀ (g' li' : Nat → Bool) (B : List Nat), (∀ k, k < (Al 159).length → g' k = true → trT TS v k = true ∧ s.1 v = true ∧ ∀ l, (TS.getD k (lfS 0)).2 v l = true → s.2 v l = true) → (∀ l, li' l = true → s.1 v = true ∧ s.2 v l = true) → (∀ l, s.1 v = true → s.2 v l = true → li' l = true ∨ ∃ k, k < m ∧ g' k = true ∧ (TS.getD k (lfS 0)).2 v l = true) → B = (List.range N).map (fun l => bN (li' l)) → ∃ X x1', xruns (O2 L) (zden L (d + 5)) 141 413 [.ref 136, .int (nI m), v2] [] (ms z f J (va_up (va_up Al 163 ((List.range (Al 159).length).map (fun k => bN (g' k)))) 165 B)) = xruns (O2 L) (zden L (d + 5)) 141 419 [.ref 136, .int x1', v2] [] (ms z f J (va_up (va_up Al 163 X) 165 ((List.range N).map (fun l => bN (s.1 v && s.2 v l))))) := by
        intro g' li' B a1 a2 a3 hB
        obtain ⟨X, x1', e⟩ := ih (nI m + -1) g' li' (by omega) (by rw [Int32.sub_eq_add_neg]; rfl) a1 a2 a3
        exact ⟨X, x1', by rw [hB, B141_413]; exact e⟩
      have e322 : xruns (O2 L) (zden L (d + 5)) 141 322 [.ref 136, .int x1, v2] [] (ms z f J (va_up (va_up Al 163 ((List.range (Al 159).length).map (fun k => bN (g k)))) 165 ((List.range N).map (fun l => bN (li l))))) = if bN (g m) = 0 then xruns (O2 L) (zden L (d + 5)) 141 335 [.ref 136, .int (nI m), v2] [] (ms z f J (va_up (va_up Al 163 ((List.range (Al 159).length).map (fun k => bN (g k)))) 165 ((List.range N).map (fun l => bN (li l))))) else xruns (O2 L) (zden L (d + 5)) 141 338 [.ref 136, .int (nI m), v2] [] (ms z f J (va_up (va_up Al 163 ((List.range (Al 159).length).map (fun k => bN (g k)))) 165 ((List.range N).map (fun l => bN (li l))))) := by
        rw [hx', B141_322, iT (by omega) (by omega), if_neg (by omega), B141_326, J136_35, Option.bind_some, ld163 g _ m ml, Option.bind_some, iE (by omega) (by omega)]
      rw [e322]
      by_cases c : bN (g m) = 0
      · have c' := (bN_0 _).mp c
        rw [if_pos c, B141_335]
        refine next g li _ hs hli (fun l h1 h2 => ?_) rfl
        rcases hc l h1 h2 with q | ⟨k, hk, hg, h3⟩
        · exact Or.inl q
        · by_cases e : k = m
          · rw [e, c'] at hg; cases hg
          · exact Or.inr ⟨k, by omega, hg, h3⟩
      · have c' := (bN_1 (g m)).mp (by omega)
        obtain ⟨t1, t2, t3⟩ := hs m ml c'
        rw [if_neg c]
        rcases hq m ml with ⟨h1, u, h2, h3, h4⟩ | ⟨h1, u, a, h2, h3, h4, h5⟩ | ⟨h1, u, w, a, b, h2, h3, h4, h5, h6, h7, h8⟩ | ⟨h1, u, w, a, b, h2, h3, h4, h5, h6, h7, h8⟩
        · -- a leaf
          have own : TS.getD m (lfS 0) = lfS u := by rw [List.getD, h4]; rfl
          have vu : v u = true := by
            rw [trT_at h4] at t1
            exact t1
          have e359 : ∀ B : List Nat, xruns (O2 L) (zden L (d + 5)) 141 359 [.ref 136, .int (nI m), v2] [] (ms z f J (va_up (va_up Al 163 ((List.range (Al 159).length).map (fun k => bN (g k)))) 165 B)) = xruns (O2 L) (zden L (d + 5)) 141 413 [.ref 136, .int (nI m), v2] [] (ms z f J (va_up (va_up Al 163 ((List.range (Al 159).length).map (fun k => bN (g k)))) 165 B)) := fun B => by
            rw [B141_359, J136_31, Option.bind_some, ld159 _ _ m 0 h1, Option.bind_some, iT (by omega) (by omega), if_pos (by omega)]
          rw [B141_338, J136_31, Option.bind_some, ld159 _ _ m 0 h1, Option.bind_some, if_pos rfl, B141_347, J136_38, Option.bind_some, J136_32, Option.bind_some, ld160 _ _ m u h2, Option.bind_some, iO1, U165 1 (by rw [vs, List.length_map, List.length_range]; exact h3) (by omega), Option.bind_some, vs, vv, e359]
          refine next g (fun l => li l || decide (l = u)) _ hs (fun l hl => ?_) (fun l p1 p2 => ?_) (set_bN (g := fun l => li l || decide (l = u)) (fun k _ hne => by simp [hne]) (fun _ => by simp))
          · simp only [Bool.or_eq_true, decide_eq_true_eq] at hl
            rcases hl with hl | hl
            · exact hli l hl
            · refine ⟨t2, t3 l ?_⟩
              rw [own, hl]
              show (v u && decide (u = u)) = true
              rw [vu]; simp
          · rcases hc l p1 p2 with q | ⟨k, hk, hg, h9⟩
            · exact Or.inl (by rw [q, Bool.true_or])
            · by_cases e : k = m
              · left
                rw [e, own] at h9
                have h9 : (v u && decide (l = u)) = true := h9
                simp only [Bool.and_eq_true] at h9
                rw [h9.2, Bool.or_true]
              · exact Or.inr ⟨k, by omega, hg, h9⟩
        · -- a !
          have own : TS.getD m (lfS 0) = ntS a := by rw [List.getD, h5]; rfl
          rw [B141_338, J136_31, Option.bind_some, ld159 _ _ m 1 h1, Option.bind_some, if_neg (by decide), B141_359, J136_31, Option.bind_some, ld159 _ _ m 1 h1, Option.bind_some, iT (by omega) (by omega), if_pos (by omega)]
          refine next g li _ hs hli (fun l p1 p2 => ?_) rfl
          rcases hc l p1 p2 with q | ⟨k, hk, hg, h9⟩
          · exact Or.inl q
          · by_cases e : k = m
            · rw [e, own] at h9
              cases h9
            · exact Or.inr ⟨k, by omega, hg, h9⟩
        · -- an &
          have own : TS.getD m (lfS 0) = anS [a, b] := by rw [List.getD, h8]; rfl
          have ou : TS.getD u (lfS 0) = a := by rw [List.getD, h6]; rfl
          have ow : TS.getD w (lfS 0) = b := by rw [List.getD, h7]; rfl
          have tr2 : a.1 v = true ∧ b.1 v = true := by
            rw [trT_at h8] at t1
            have t1 : ([a, b] : List Sem).all (fun s => s.1 v) = true := t1
            simpa using t1
          have b01 : ∀ x : Bool, nI (bN x) = nI 0 ∨ nI (bN x) = nI 1 := fun x => by cases x; exact Or.inl rfl; exact Or.inr rfl
          rw [B141_338, J136_31, Option.bind_some, ld159 _ _ m 2 h1, Option.bind_some, if_neg (by decide), B141_359, J136_31, Option.bind_some, ld159 _ _ m 2 h1, Option.bind_some, iT (by omega) (by omega), if_neg (by omega), B141_369, J136_35, Option.bind_some, J136_32, Option.bind_some, ld160 _ _ m u h2, Option.bind_some, J136_34, Option.bind_some, Option.bind_some, ld160 _ _ m u h2, Option.bind_some, ld162 _ _ u (by omega), Option.bind_some, if_pos (b01 _), st163 _ _ u _ (by omega), Option.bind_some, J136_35, Option.bind_some, J136_33, Option.bind_some, ld161 _ _ m w h3, Option.bind_some, J136_34, Option.bind_some, Option.bind_some, ld161 _ _ m w h3, Option.bind_some, ld162 _ _ w (by omega), Option.bind_some, if_pos (b01 _), st163 _ _ w _ (by omega), Option.bind_some, trT_at h6, trT_at h7, tr2.1, tr2.2]
          refine next (fun k => if k = w then true else if k = u then true else g k) li _ (fun k hk hg => ?_) hli (fun l p1 p2 => ?_) rfl
          · by_cases e1 : k = w
            · subst e1
              refine ⟨by rw [trT_at h7]; exact tr2.2, t2, fun l hl => t3 l ?_⟩
              rw [own]
              rw [ow] at hl
              show (([a, b] : List Sem).all (fun s => s.1 v) && ([a, b] : List Sem).any (fun s => s.2 v l)) = true
              simp [tr2.1, tr2.2, hl]
            · by_cases e2 : k = u
              · subst e2
                refine ⟨by rw [trT_at h6]; exact tr2.1, t2, fun l hl => t3 l ?_⟩
                rw [own]
                rw [ou] at hl
                show (([a, b] : List Sem).all (fun s => s.1 v) && ([a, b] : List Sem).any (fun s => s.2 v l)) = true
                simp [tr2.1, tr2.2, hl]
              · simp only [e1, e2, if_false] at hg
                exact hs k hk hg
          · rcases hc l p1 p2 with q | ⟨k, hk, hg, h9⟩
            · exact Or.inl q
            · by_cases e : k = m
              · rw [e, own] at h9
                have h9 : (([a, b] : List Sem).all (fun s => s.1 v) && ([a, b] : List Sem).any (fun s => s.2 v l)) = true := h9
                simp only [Bool.and_eq_true, List.any_cons, List.any_nil, Bool.or_false, Bool.or_eq_true] at h9
                rcases h9.2 with h10 | h10
                · refine Or.inr ⟨u, h4, ?_, by rw [ou]; exact h10⟩
                  show (if u = w then true else if u = u then true else g u) = true
                  split <;> simp
                · exact Or.inr ⟨w, h5, by simp, by rw [ow]; exact h10⟩
              · refine Or.inr ⟨k, by omega, ?_, h9⟩
                show (if k = w then true else if k = u then true else g k) = true
                rw [hg]
                split
                · rfl
                · split <;> rfl
        · -- an |
          have own : TS.getD m (lfS 0) = orS [a, b] := by rw [List.getD, h8]; rfl
          have ou : TS.getD u (lfS 0) = a := by rw [List.getD, h6]; rfl
          have ow : TS.getD w (lfS 0) = b := by rw [List.getD, h7]; rfl
          have na : Nrm a := nrm u u a (Nat.le_refl _) (by omega) h6
          have nb : Nrm b := nrm w w b (Nat.le_refl _) (by omega) h7
          have b01 : ∀ x : Bool, nI (bN x) = nI 0 ∨ nI (bN x) = nI 1 := fun x => by cases x; exact Or.inl rfl; exact Or.inr rfl
          rw [B141_338, J136_31, Option.bind_some, ld159 _ _ m 3 h1, Option.bind_some, if_neg (by decide), B141_359, J136_31, Option.bind_some, ld159 _ _ m 3 h1, Option.bind_some, iT (by omega) (by omega), if_neg (by omega), B141_369, J136_35, Option.bind_some, J136_32, Option.bind_some, ld160 _ _ m u h2, Option.bind_some, J136_34, Option.bind_some, Option.bind_some, ld160 _ _ m u h2, Option.bind_some, ld162 _ _ u (by omega), Option.bind_some, if_pos (b01 _), st163 _ _ u _ (by omega), Option.bind_some, J136_35, Option.bind_some, J136_33, Option.bind_some, ld161 _ _ m w h3, Option.bind_some, J136_34, Option.bind_some, Option.bind_some, ld161 _ _ m w h3, Option.bind_some, ld162 _ _ w (by omega), Option.bind_some, if_pos (b01 _), st163 _ _ w _ (by omega), Option.bind_some, trT_at h6, trT_at h7]
          refine next (fun k => if k = w then b.1 v else if k = u then a.1 v else g k) li _ (fun k hk hg => ?_) hli (fun l p1 p2 => ?_) rfl
          · by_cases e1 : k = w
            · subst e1
              simp only [if_true] at hg
              refine ⟨by rw [trT_at h7]; exact hg, t2, fun l hl => t3 l ?_⟩
              rw [own]
              rw [ow] at hl
              show ([a, b] : List Sem).any (fun s => s.2 v l) = true
              simp [hl]
            · by_cases e2 : k = u
              · subst e2
                simp only [e1, if_false, if_true] at hg
                refine ⟨by rw [trT_at h6]; exact hg, t2, fun l hl => t3 l ?_⟩
                rw [own]
                rw [ou] at hl
                show ([a, b] : List Sem).any (fun s => s.2 v l) = true
                simp [hl]
              · simp only [e1, e2, if_false] at hg
                exact hs k hk hg
          · rcases hc l p1 p2 with q | ⟨k, hk, hg, h9⟩
            · exact Or.inl q
            · by_cases e : k = m
              · rw [e, own] at h9
                have h9 : ([a, b] : List Sem).any (fun s => s.2 v l) = true := h9
                simp only [List.any_cons, List.any_nil, Bool.or_false, Bool.or_eq_true] at h9
                rcases h9 with h10 | h10
                · refine Or.inr ⟨u, h4, ?_, by rw [ou]; exact h10⟩
                  show (if u = w then b.1 v else if u = u then a.1 v else g u) = true
                  by_cases e3 : u = w
                  · rw [if_pos e3]
                    subst e3
                    rw [h6] at h7
                    cases h7
                    exact na v l h10
                  · rw [if_neg e3, if_pos rfl]
                    exact na v l h10
                · refine Or.inr ⟨w, h5, ?_, by rw [ow]; exact h10⟩
                  show (if w = w then b.1 v else if w = u then a.1 v else g w) = true
                  rw [if_pos rfl]
                  exact nb v l h10
              · refine Or.inr ⟨k, by omega, ?_, h9⟩
                have tk := (hs k (by omega) hg).1
                show (if k = w then b.1 v else if k = u then a.1 v else g k) = true
                split
                · rename_i e3
                  rw [e3, trT_at h7] at tk
                  exact tk
                · split
                  · rename_i e3
                    rw [e3, trT_at h6] at tk
                    exact tk
                  · exact hg
  have b01 : ∀ x : Bool, nI (bN x) = nI 0 ∨ nI (bN x) = nI 1 := fun x => by cases x; exact Or.inl rfl; exact Or.inr rfl
  have a163 : Al 163 = (List.range (Al 159).length).map (fun k => bN ((fun _ => false : Nat → Bool) k)) := by
    rw [h163]
    refine List.ext_getElem (by rw [List.length_replicate, List.length_map, List.length_range]) (fun k h1 h2 => ?_)
    rw [List.getElem_replicate, List.getElem_map]; rfl
  have a165 : Al 165 = (List.range N).map (fun l => bN ((fun _ => false : Nat → Bool) l)) := by
    rw [h165]
    refine List.ext_getElem (by rw [List.length_replicate, List.length_map, List.length_range]) (fun k h1 h2 => ?_)
    rw [List.getElem_replicate, List.getElem_map]; rfl
  have aAl : Al = va_up (va_up Al 163 ((List.range (Al 159).length).map (fun k => bN ((fun _ => false : Nat → Bool) k)))) 165 ((List.range N).map (fun l => bN ((fun _ => false : Nat → Bool) l))) := by
    rw [← a163, ← a165, vi, vi]
  have root : TS.getD ((Al 159).length - 1) (lfS 0) = s := by rw [List.getD, hS]; rfl
  obtain ⟨X, x1', e⟩ := loop (Al 159).length (nI (Al 159).length - nI 1) (fun k => if k = (Al 159).length - 1 then s.1 v else false) (fun _ => false) (Nat.le_refl _) rfl (fun k hk hg => by
    by_cases e : k = (Al 159).length - 1
    · subst e
      simp only [if_true] at hg
      exact ⟨by rw [trT_at hS]; exact hg, hg, fun l hl => by rw [root] at hl; exact hl⟩
    · simp only [e, if_false] at hg
      cases hg) (fun l q => by cases q) (fun l p1 p2 => Or.inr ⟨(Al 159).length - 1, by omega, by simp [p1], by rw [root]; exact p2⟩)
  refine ⟨X, x1', ?_⟩
  have e293 : xruns (O2 L) (zden L (d + 5)) 141 286 [.ref 136, .int x1, v2] [] (ms z f J Al) = xruns (O2 L) (zden L (d + 5)) 141 315 [.ref 136, .int x1, v2] [] (ms z f J (va_up (va_up Al 163 ((List.range (Al 159).length).map (fun k => bN (if k = (Al 159).length - 1 then s.1 v else false)))) 165 ((List.range N).map (fun l => bN ((fun _ => false : Nat → Bool) l))))) := by
    conv => lhs; rw [aAl]
    rw [B141_286, M30r, Option.bind_some, h30, iL (by omega) (by omega), if_neg (by omega), B141_293, J136_35, Option.bind_some, M30r, Option.bind_some, J136_34, Option.bind_some, Option.bind_some, h30, pk_sub n1, ld162 _ _ _ (by omega), Option.bind_some, if_pos (b01 _), st163 _ _ _ _ (by omega), Option.bind_some, trT_at hS]
  rw [e293, B141_315, M30r, Option.bind_some, h30]
  exact e
end
