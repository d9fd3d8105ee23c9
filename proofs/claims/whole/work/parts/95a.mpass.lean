/-! PASSAGES: the reference -/
theorem MR.fr {T Q : CT} {S : Option Sem} {lk : Nat} {Al Al' : Nat → List Nat} (h : MR T Q S lk Al) (h2 : ∀ a, 159 ≤ a → a ≤ 169 → Al' a = Al a) : MR T Q S lk Al' := by
  obtain ⟨g1, g2, g3, g4, g5, g6, g7⟩ := h
  exact ⟨by rw [h2 164 (by omega) (by omega)]; exact g1, by rw [h2 165 (by omega) (by omega)]; exact g2, by rw [h2 166 (by omega) (by omega)]; exact g3, by rw [h2 167 (by omega) (by omega)]; exact g4, by rw [h2 168 (by omega) (by omega)]; exact g5, by rw [h2 169 (by omega) (by omega)]; exact g6, by rw [h2 162 (by omega) (by omega), h2 159 (by omega) (by omega)]; exact g7⟩
theorem GX.fr {bs : List Nat} {Q : CT} {S : Option Sem} {lim : Nat} {f f' : Nat → Int32} {Al Al' : Nat → List Nat} (g : GX bs Q S lim f Al) (h1 : ∀ k, k ∈ [3, 4, 10, 14, 19, 21, 30, 36] → f' k = f k) (h2 : ∀ a, 138 ≤ a → a ≤ 169 → Al' a = Al a) : GX bs Q S lim f' Al' :=
  ⟨g.bb, g.rd, g.qo, g.l300, g.mt.fr (fun k hk => h1 k (by simp at hk ⊢; omega)) (fun a a1 a2 => h2 a a1 (by omega)), g.mq.fr (h1 21 (by simp)) (fun a a1 a2 => h2 a (by omega) (by omega)), g.mn.fr (h1 30 (by simp)) (fun a a1 a2 => h2 a (by omega) (by omega)), by rw [h1 36 (by simp)]; exact g.h36, g.mr.fr (fun a a1 a2 => h2 a (by omega) a2)⟩
theorem scoZ_le (T Q : CT) (li : Nat → Bool) (lk s : Nat) (n12 : (Q.1 6).length ≤ 12) : scoZ T Q li lk s ≤ 576000 := by
  have h1 := sumZ_le T Q li lk s (Q.1 6).length
  have h2 : scoZ T Q li lk s ≤ 16 * sumZ T Q li lk s (Q.1 6).length := Nat.div_le_self _ _
  omega
/-- the scores of a state -/
def scrZ (bs : List Nat) (Q : CT) (S : Option Sem) (lim : Nat) : Nat → Nat := scoZ (cread bs).2 Q (lvS S (vC (cread bs).2 Q (min lim ((cread bs).2.1 1).length))) (min lim ((cread bs).2.1 1).length)
def plM (ch : Nat → Bool) (n : Nat) : List Nat := plA ch (jch ch) n ++ (if n ≠ 0 ∧ jch ch (n - 1) = true then [n - 1] else [])
theorem plM_len {ch : Nat → Bool} {m : Nat} (H : JDM ch (jch ch) m) (n : Nat) : (plM ch n).length = (pfA ch (jch ch) n).length := by
  rw [(places_inv H n).1]
  unfold plM
  rw [List.length_append]
  split <;> rfl
section
variable {L d : Nat} {z : zS} {bs : List Nat} {Q : CT} {S : Option Sem} {lim : Nat} {f : Nat → Int32} {J : Nat → Nat → Int32}
/-- the best one left -/
theorem m155_best {Al : Nat → List Nat} {ch : Nat → Bool} (g : GX bs Q S lim f Al) (h188 : Al 188 = (List.range (((cread bs).2.1 8).length + 1)).map (fun z => bN (ch z))) (x1 x2 x3 : Int32) : ∀ (r s : Nat), s + r = ((cread bs).2.1 8).length → xruns (O2 L) (zden L (d + 1)) 155 51 [.ref 136, .int x1, .int x2, .int x3, .int (fI (bst (scrZ bs Q S lim) ch s)), .int (nI s)] [] (ms z f J Al) = xruns (O2 L) (zden L (d + 1)) 155 109 [.ref 136, .int x1, .int x2, .int x3, .int (fI (bst (scrZ bs Q S lim) ch ((cread bs).2.1 8).length)), .int (nI ((cread bs).2.1 8).length)] [] (ms z f J Al) := by
  have tx := txr g.bb g.rd
  have to := txt_ok g.bb g.rd
  have W300 := tx.W300
  have l8 := tx.l8
  have h19 : f 19 = nI ((cread bs).2.1 8).length := by rw [g.mt.2.2.2.2.2.2.1, ← to.2.2.2.2.2]
  have n12 := g.qo.2.2.1
  have sl : ∀ s, scrZ bs Q S lim s ≤ 576000 := fun s => scoZ_le _ _ _ _ s n12
  intro r
  induction r with
  | zero =>
    intro s hs
    have : s = ((cread bs).2.1 8).length := by omega
    subst this
    rw [B155_51, M19r, Option.bind_some, h19, iL (by omega) (by omega), if_pos (Nat.le_refl _)]
  | succ r ih =>
    intro s hs
    have sl' : s < ((cread bs).2.1 8).length := by omega
    have e : bst (scrZ bs Q S lim) ch (s + 1) = if ch s = false ∧ bsc (scrZ bs Q S lim) (bst (scrZ bs Q S lim) ch s) < scrZ bs Q S lim s then some s else bst (scrZ bs Q S lim) ch s := rfl
    have i0 := ih (s + 1) (by omega)
    have bl := bN_le (ch s)
    have ss := sl s
    have e147 : ∀ s, s < ((cread bs).2.1 8).length → zden L (d + 1) 147 [.ref 136, .int (nI s)] (ms z f J Al) = some (nI (scrZ bs Q S lim s), ms z f J Al) := fun s hs => m147 g hs
    rw [B155_51, M19r, Option.bind_some, h19, iL (by omega) (by omega), if_neg (by omega), B155_60, J136_72, Option.bind_some, L188 (by rw [h188, List.length_map, List.length_range]; omega) (by omega), Option.bind_some, h188, map_at (by omega), iE (by omega) (by omega)]
    by_cases c0 : bN (ch s) = 0
    · have c0' := (bN_0 _).mp c0
      rw [if_pos c0, B155_70, e147 s sl', Option.bind_some, iL (by omega) (by omega)]
      by_cases c1 : scrZ bs Q S lim s ≤ 0
      · rw [if_neg (fun q => by have := q.2; omega)] at e
        rw [e] at i0
        rw [if_pos c1, B155_103, nI_add]
        exact i0
      · rw [if_neg c1, B155_79]
        cases hb : bst (scrZ bs Q S lim) ch s with
        | none =>
          rw [hb] at e
          rw [if_pos ⟨c0', by show 0 < _; omega⟩] at e
          rw [e] at i0
          rw [if_pos (show fI none < nI 0 from by decide), B155_99, B155_103, nI_add]
          exact i0
        | some b =>
          have bl2 := (bst_lt hb).1
          have sb := sl b
          rw [hb] at e
          rw [if_neg (show ¬ fI (some b) < nI 0 from nI_p0 (show b < 2 ^ 31 by omega)), B155_84, e147 s sl', Option.bind_some]
          show ((zden L (d + 1) 147 [.ref 136, .int (nI b)] (ms z f J Al)).bind _) = _
          rw [e147 b (by omega), Option.bind_some, iL (by omega) (by omega)]
          by_cases c2 : scrZ bs Q S lim s ≤ scrZ bs Q S lim b
          · rw [if_neg (fun q => by have : scrZ bs Q S lim b < scrZ bs Q S lim s := q.2; omega)] at e
            rw [e] at i0
            rw [if_pos c2, B155_103, nI_add]
            exact i0
          · rw [if_pos ⟨c0', by show scrZ bs Q S lim b < _; omega⟩] at e
            rw [e] at i0
            rw [if_neg c2, B155_99, B155_103, nI_add]
            exact i0
    · rw [if_neg (fun q => c0 ((bN_0 _).mpr q.1))] at e
      rw [e] at i0
      rw [if_neg c0, B155_103, nI_add]
      exact i0
/-- the chosen ones are gathered -/
theorem m155_gather {Al : Nat → List Nat} {ch : Nat → Bool} {k : Nat} (g : GX bs Q S lim f Al) (h188 : Al 188 = (List.range (((cread bs).2.1 8).length + 1)).map (fun z => bN (ch z))) (H : JDM ch (jch ch) ((cread bs).2.1 8).length) (h9 : ∀ z, z ≤ ((cread bs).2.1 8).length → (pfA ch (jch ch) z).length ≤ 9) (x1 x2 : Int32) (v4 v5 : Value) : ∀ (r s : Nat), s + r = ((cread bs).2.1 8).length → xruns (O2 L) (zden L (d + 1)) 155 155 [.ref 136, .int x1, .int x2, .int (nI s), v4, v5] [] (ms z (va_up f 43 (nI (pfA ch (jch ch) s).length)) J (va_up (va_up Al 170 (pfA ch (jch ch) s)) 171 (plM ch s))) = some (nI (pfA ch (jch ch) ((cread bs).2.1 8).length).length, ms z (va_up f 43 (nI (pfA ch (jch ch) ((cread bs).2.1 8).length).length)) J (va_up (va_up Al 170 (pfA ch (jch ch) ((cread bs).2.1 8).length)) 171 (plM ch ((cread bs).2.1 8).length))) := by
  have tx := txr g.bb g.rd
  have to := txt_ok g.bb g.rd
  have W300 := tx.W300
  have l8 := tx.l8
  have h19 : f 19 = nI ((cread bs).2.1 8).length := by rw [g.mt.2.2.2.2.2.2.1, ← to.2.2.2.2.2]
  have r19 : ∀ x, va_up f 43 x 19 = nI ((cread bs).2.1 8).length := fun x => by rw [vn _ _ (by omega)]; exact h19
  have r43 : ∀ x : Int32, va_up f 43 x 43 = x := fun x => vs _ _ _
  have q188 : ∀ A B : List Nat, va_up (va_up Al 170 A) 171 B 188 = (List.range (((cread bs).2.1 8).length + 1)).map (fun z => bN (ch z)) := fun A B => by rw [vn _ _ (by omega), vn _ _ (by omega)]; exact h188
  have q170 : ∀ A B : List Nat, va_up (va_up Al 170 A) 171 B 170 = A := fun A B => by rw [vn _ _ (by omega), vs]
  have q171 : ∀ A B : List Nat, va_up (va_up Al 170 A) 171 B 171 = B := fun A B => vs _ _ _
  intro r
  induction r with
  | zero =>
    intro s hs
    have : s = ((cread bs).2.1 8).length := by omega
    subst this
    rw [B155_155, M19r, Option.bind_some, r19, iL (by omega) (by omega), if_pos (Nat.le_refl _), B155_228, M43r, Option.bind_some, r43]
  | succ r ih =>
    intro s hs
    have bl := bN_le (ch s)
    have e1 : pfA ch (jch ch) (s + 1) = if (ch s && !(decide (s ≠ 0) && jch ch (s - 1))) = true then pfA ch (jch ch) s ++ [s] else pfA ch (jch ch) s := filt_succ _ _
    have e2 : plA ch (jch ch) (s + 1) = if (ch s && !jch ch s) = true then plA ch (jch ch) s ++ [s] else plA ch (jch ch) s := filt_succ _ _
    have l1 := h9 (s + 1) (by omega)
    have l0 := h9 s (by omega)
    have pl0 := plM_len H s
    have pl1 := plM_len H (s + 1)
    have pin := (places_inv H s).1
    have i0 := ih (s + 1) (by omega)
    have e222 : xruns (O2 L) (zden L (d + 1)) 155 222 [.ref 136, .int x1, .int x2, .int (nI s), v4, v5] [] (ms z (va_up f 43 (nI (pfA ch (jch ch) (s + 1)).length)) J (va_up (va_up Al 170 (pfA ch (jch ch) (s + 1))) 171 (plM ch (s + 1)))) = some (nI (pfA ch (jch ch) ((cread bs).2.1 8).length).length, ms z (va_up f 43 (nI (pfA ch (jch ch) ((cread bs).2.1 8).length).length)) J (va_up (va_up Al 170 (pfA ch (jch ch) ((cread bs).2.1 8).length)) 171 (plM ch ((cread bs).2.1 8).length))) := by
      rw [B155_222, nI_add]
      exact i0
    -- the last one, once it is chosen
    have pM : ch s = true → plM ch (s + 1) = plA ch (jch ch) s ++ [s] := fun hc => by
      unfold plM
      rw [e2, Nat.add_sub_cancel]
      cases hj : jch ch s
      · rw [if_pos (by rw [hc]; rfl), if_neg (fun q => by cases q.2), List.append_nil]
      · rw [if_neg (by rw [hc]; decide), if_pos ⟨by omega, rfl⟩]
    rw [B155_155, M19r, Option.bind_some, r19, iL (by omega) (by omega), if_neg (by omega), B155_163, J136_72, Option.bind_some, L188 (by rw [q188, List.length_map, List.length_range]; omega) (by omega), Option.bind_some, q188, map_at (by omega), iE (by omega) (by omega)]
    by_cases c0 : bN (ch s) = 0
    · have c0' := (bN_0 _).mp c0
      have p1 : pfA ch (jch ch) (s + 1) = pfA ch (jch ch) s := by rw [e1, c0']; rfl
      have p2 : plM ch (s + 1) = plM ch s := by
        unfold plM
        rw [e2, c0', if_neg (by simp), Nat.add_sub_cancel, if_neg (fun q => by have := q.2; unfold jch at this; rw [c0'] at this; cases this), if_neg (fun q => by
          have h2 := q.2
          unfold jch at h2
          have : s - 1 + 1 = s := by omega
          rw [this, c0', Bool.and_false] at h2; cases h2)]
      rw [if_pos c0, B155_172, ← p1, ← p2]
      exact e222
    · have c0' := (bN_1 (ch s)).mp (by omega)
      have pm := pM c0'
      rw [if_neg c0, B155_175, iE (by omega) (by omega)]
      -- a new passage
      have new : (ch s && !(decide (s ≠ 0) && jch ch (s - 1))) = true → plM ch s = plA ch (jch ch) s → xruns (O2 L) (zden L (d + 1)) 155 190 [.ref 136, .int x1, .int x2, .int (nI s), v4, v5] [] (ms z (va_up f 43 (nI (pfA ch (jch ch) s).length)) J (va_up (va_up Al 170 (pfA ch (jch ch) s)) 171 (plM ch s))) = some (nI (pfA ch (jch ch) ((cread bs).2.1 8).length).length, ms z (va_up f 43 (nI (pfA ch (jch ch) ((cread bs).2.1 8).length).length)) J (va_up (va_up Al 170 (pfA ch (jch ch) ((cread bs).2.1 8).length)) 171 (plM ch ((cread bs).2.1 8).length))) := by
        intro q hp
        rw [if_pos q] at e1
        rw [B155_190, J136_44, Option.bind_some, M43r, Option.bind_some, r43, A170 _ (by rw [q170]) (by omega), Option.bind_some, q170, up_comm _ (show (171 : Nat) ≠ 170 by omega), vv, ← e1, M43r, Option.bind_some, r43, nI_add, M43p, Option.bind_some, vv, B155_210, J136_45, Option.bind_some, M43r, Option.bind_some, r43, pk_sub (by omega), Nat.add_sub_cancel, A171 _ (by rw [q171]; exact pl0) (by omega), Option.bind_some, q171, vv, hp, ← pm, show (pfA ch (jch ch) s).length + 1 = (pfA ch (jch ch) (s + 1)).length from by rw [e1, List.length_append]; rfl]
        exact e222
      by_cases s0 : s = 0
      · rw [if_pos s0]
        refine new (by rw [c0', s0]; simp) ?_
        unfold plM
        rw [if_neg (fun q => q.1 s0), List.append_nil]
      · have bl' := bN_le (ch (s - 1))
        rw [if_neg s0, B155_179, J136_72, Option.bind_some, pk_sub (by omega), L188 (by rw [q188, List.length_map, List.length_range]; omega) (by omega), Option.bind_some, q188, map_at (by omega), iE (by omega) (by omega)]
        by_cases c2 : bN (ch (s - 1)) = 0
        · have c2' := (bN_0 _).mp c2
          have nj : jch ch (s - 1) = false := by unfold jch; rw [c2']; rfl
          rw [if_pos c2]
          refine new (by rw [c0', nj]; simp) ?_
          unfold plM
          rw [if_neg (fun q => by rw [nj] at q; cases q.2), List.append_nil]
        · have c2' := (bN_1 (ch (s - 1))).mp (by omega)
          have yj : jch ch (s - 1) = true := by unfold jch; rw [c2', show s - 1 + 1 = s by omega, c0']; rfl
          rw [if_neg (by rw [yj, decide_eq_true s0, c0']; decide)] at e1
          rw [if_pos ⟨s0, yj⟩] at pin
          have hp : plM ch s = plA ch (jch ch) s ++ [s - 1] := by unfold plM; rw [if_pos ⟨s0, yj⟩]
          have hset : (plM ch s).set ((pfA ch (jch ch) s).length - 1) s = plM ch (s + 1) := by
            rw [hp, pm, show (pfA ch (jch ch) s).length - 1 = (plA ch (jch ch) s).length by omega, List.set_append_right _ _ (Nat.le_refl _), Nat.sub_self]
            rfl
          rw [if_neg c2, B155_210, J136_45, Option.bind_some, M43r, Option.bind_some, r43, pk_sub (by omega), U171 _ (by rw [q171]; omega) (by omega), Option.bind_some, q171, vv, hset, ← e1]
          exact e222
theorem m155 {Al : Nat → List Nat} {k : Nat} (g : GX bs Q S lim f Al) (k1 : 1 ≤ k) (k9 : k ≤ 9) : ∃ J' Al', FrM [43] [170, 171, 188] f J Al (va_up f 43 (nI (pfA (fch (scrZ bs Q S lim) ((cread bs).2.1 8).length k) (jch (fch (scrZ bs Q S lim) ((cread bs).2.1 8).length k)) ((cread bs).2.1 8).length).length)) J' Al' ∧ zden L (d + 2) 155 [.ref 136, .int (nI k)] (ms z f J Al) = some (nI (pfA (fch (scrZ bs Q S lim) ((cread bs).2.1 8).length k) (jch (fch (scrZ bs Q S lim) ((cread bs).2.1 8).length k)) ((cread bs).2.1 8).length).length, ms z (va_up f 43 (nI (pfA (fch (scrZ bs Q S lim) ((cread bs).2.1 8).length k) (jch (fch (scrZ bs Q S lim) ((cread bs).2.1 8).length k)) ((cread bs).2.1 8).length).length)) J' Al') ∧ Al' 170 = pfA (fch (scrZ bs Q S lim) ((cread bs).2.1 8).length k) (jch (fch (scrZ bs Q S lim) ((cread bs).2.1 8).length k)) ((cread bs).2.1 8).length ∧ Al' 171 = plA (fch (scrZ bs Q S lim) ((cread bs).2.1 8).length k) (jch (fch (scrZ bs Q S lim) ((cread bs).2.1 8).length k)) ((cread bs).2.1 8).length := by
  have tx := txr g.bb g.rd
  have to := txt_ok g.bb g.rd
  have W300 := tx.W300
  have l8 := tx.l8
  have h19 : f 19 = nI ((cread bs).2.1 8).length := by rw [g.mt.2.2.2.2.2.2.1, ← to.2.2.2.2.2]
  have n12 := g.qo.2.2.1
  obtain ⟨J1, Al1, a1, a2, a3, a4⟩ := ms_forgetL (z := z) (f := f) [170, 171, 188] J Al
  have gA : ∀ (f' : Nat → Int32) (X : List Nat), (∀ k, k ≠ 43 → f' k = f k) → GX bs Q S lim f' (va_up Al1 188 X) := fun f' X hf => g.fr (fun k hk => hf k (by simp at hk; omega)) (fun a b1 b2 => by rw [vn _ _ (by omega), a4 a (by simp; omega)])
  generalize hn : ((cread bs).2.1 8).length = n at *
  generalize hs : scrZ bs Q S lim = sc
  -- the end of it
  have fin : ∀ (x2 x3 : Int32) (v4 v5 : Value), xruns (O2 L) (zden L (d + 1)) 155 148 [.ref 136, .int (nI k), .int x2, .int x3, v4, v5] [] (ms z f J1 (va_up Al1 188 ((List.range (n + 1)).map (fun z => bN (fch sc n k z))))) = some (nI (pfA (fch sc n k) (jch (fch sc n k)) n).length, ms z (va_up f 43 (nI (pfA (fch sc n k) (jch (fch sc n k)) n).length)) J1 (va_up (va_up (va_up Al1 188 ((List.range (n + 1)).map (fun z => bN (fch sc n k z)))) 170 (pfA (fch sc n k) (jch (fch sc n k)) n)) 171 (plA (fch sc n k) (jch (fch sc n k)) n))) := by
    intro x2 x3 v4 v5
    have H := jdm_fch sc n k
    have h := m155_gather (L := L) (d := d) (z := z) (J := J1) (k := k) (ch := fch sc n k) (gA f ((List.range (n + 1)).map (fun z => bN (fch sc n k z))) (fun _ _ => rfl)) (by rw [vs, hn]) (by rw [hn]; exact H) (fun z hz => by rw [hn] at hz; have := pfA_le9 (fch_cnt (sc := sc) (n := n) k1) hz; omega) (nI k) x2 v4 v5 n 0 (by omega)
    rw [hn] at h
    have e0 : plM (fch sc n k) n = plA (fch sc n k) (jch (fch sc n k)) n := by
      unfold plM
      rw [if_neg (fun q => by
        have h1 := (H.1 _ q.2).2
        have h2 := H.2 _ h1
        omega), List.append_nil]
    rw [e0] at h
    rw [B155_148, M43p, Option.bind_some]
    have s0 : va_up (va_up (va_up Al1 188 ((List.range (n + 1)).map (fun z => bN (fch sc n k z)))) 170 (pfA (fch sc n k) (jch (fch sc n k)) 0)) 171 (plM (fch sc n k) 0) = va_up Al1 188 ((List.range (n + 1)).map (fun z => bN (fch sc n k z))) := by
      have p0 : plM (fch sc n k) 0 = [] := by unfold plM; rw [if_neg (fun q => q.1 rfl)]; rfl
      rw [p0, show pfA (fch sc n k) (jch (fch sc n k)) 0 = [] from rfl]
      funext i
      unfold va_up
      by_cases i1 : i = 171
      · rw [if_pos i1, if_neg (by omega), i1, a3 171 (by simp)]
      · rw [if_neg i1]
        by_cases i2 : i = 170
        · rw [if_pos i2, if_neg (by omega), i2, a3 170 (by simp)]
        · rw [if_neg i2]
    rw [s0] at h
    exact h
  -- all are taken out
  have clear : ∀ (r s : Nat) (v3 v4 v5 : Value), s + r = n + 1 → xruns (O2 L) (zden L (d + 1)) 155 15 [.ref 136, .int (nI k), .int (nI s), v3, v4, v5] [] (ms z f J1 (va_up Al1 188 ((List.range s).map (fun z => bN ((fun _ => false) z))))) = xruns (O2 L) (zden L (d + 1)) 155 40 [.ref 136, .int (nI k), .int (nI 0), .int (nI 0), v4, v5] [] (ms z f J1 (va_up Al1 188 ((List.range (n + 1)).map (fun z => bN ((fun _ => false) z))))) := by
    intro r
    induction r with
    | zero =>
      intro s v3 v4 v5 hs
      have : s = n + 1 := by omega
      subst this
      rw [B155_15, M19r, Option.bind_some, h19, iT (by omega) (by omega), if_pos (by omega), B155_36]
    | succ r ih =>
      intro s v3 v4 v5 hs
      rw [B155_15, M19r, Option.bind_some, h19, iT (by omega) (by omega), if_neg (by omega), B155_23, J136_72, Option.bind_some, iO0, A188 _ (by rw [vs, List.length_map, List.length_range]) (by omega), Option.bind_some, vs, vv, nI_add, show (List.range s).map (fun z => bN ((fun _ => false) z)) ++ [0] = (List.range (s + 1)).map (fun z => bN ((fun _ => false) z)) from mapS _ s]
      exact ih (s + 1) v3 v4 v5 (by omega)
  have start : zden L (d + 2) 155 [.ref 136, .int (nI k)] (ms z f J Al) = xruns (O2 L) (zden L (d + 1)) 155 40 [.ref 136, .int (nI k), .int (nI 0), .int (nI 0), .null, .null] [] (ms z f J1 (va_up Al1 188 ((List.range (n + 1)).map (fun z => bN ((fun _ => false) z))))) := by
    rw [N155 _ _ ob136, B155_0, iT (by omega) (by omega), if_neg (by omega), B155_5, iL (by omega) (by omega), if_pos k9, B155_13, a1]
    have c0 := clear (n + 1) 0 .null .null .null (by omega)
    have s0 : va_up Al1 188 ((List.range 0).map (fun z => bN ((fun _ => false) z))) = Al1 := by
      funext i
      unfold va_up
      by_cases i1 : i = 188
      · rw [if_pos i1, i1, a3 188 (by simp)]; rfl
      · rw [if_neg i1]
    rw [s0] at c0
    exact c0
  refine ⟨J1, va_up (va_up (va_up Al1 188 ((List.range (n + 1)).map (fun z => bN (fch sc n k z)))) 170 (pfA (fch sc n k) (jch (fch sc n k)) n)) 171 (plA (fch sc n k) (jch (fch sc n k)) n), ⟨a2, fun i hi => vn _ _ (by simpa using hi), fun a ha => ?_⟩, ?_, by rw [vn _ _ (by omega), vs], vs _ _ _⟩
  · simp at ha
    rw [vn _ _ (by omega), vn _ _ (by omega), vn _ _ (by omega), a4 a (by simp; omega)]
  rw [start]
  have best : ∀ (ch : Nat → Bool) (x2 x3 : Int32), xruns (O2 L) (zden L (d + 1)) 155 51 [.ref 136, .int (nI k), .int x2, .int x3, .int (-1), .int (nI 0)] [] (ms z f J1 (va_up Al1 188 ((List.range (n + 1)).map (fun z => bN (ch z))))) = xruns (O2 L) (zden L (d + 1)) 155 109 [.ref 136, .int (nI k), .int x2, .int x3, .int (fI (bst sc ch n)), .int (nI n)] [] (ms z f J1 (va_up Al1 188 ((List.range (n + 1)).map (fun z => bN (ch z))))) := by
    intro ch x2 x3
    have h := m155_best (L := L) (d := d) (z := z) (J := J1) (ch := ch) (gA f ((List.range (n + 1)).map (fun z => bN (ch z))) (fun _ _ => rfl)) (by rw [vs, hn]) (nI k) x2 x3 n 0 (by omega)
    rw [hs, hn] at h
    exact h
  cases hb : bst sc (fun _ => false) n with
  | none =>
    have e : ∀ z, fch sc n k z = (decide (z = 0) && decide (z < n)) := fun z => by unfold fch; rw [hb]
    have loop : ∀ (r i : Nat) (v4 v5 : Value), i + r = k → ∃ v4' v5', xruns (O2 L) (zden L (d + 1)) 155 40 [.ref 136, .int (nI k), .int (nI 0), .int (nI i), v4, v5] [] (ms z f J1 (va_up Al1 188 ((List.range (n + 1)).map (fun z => bN ((fun _ => false) z))))) = xruns (O2 L) (zden L (d + 1)) 155 130 [.ref 136, .int (nI k), .int (nI 0), .int (nI k), v4', v5'] [] (ms z f J1 (va_up Al1 188 ((List.range (n + 1)).map (fun z => bN ((fun _ => false) z))))) := by
      intro r
      induction r with
      | zero =>
        intro i v4 v5 hi
        have : i = k := by omega
        subst this
        exact ⟨v4, v5, by rw [B155_40, if_pos (nI_le (Nat.le_refl _) (by omega))]⟩
      | succ r ih =>
        intro i v4 v5 hi
        obtain ⟨v4', v5', h⟩ := ih (i + 1) (.int (-1)) (.int (nI n)) (by omega)
        refine ⟨v4', v5', ?_⟩
        rw [B155_40, iL (by omega) (by omega), if_neg (by omega), B155_45, best, hb, B155_109, if_pos (show fI none < nI 0 from by decide), B155_124, nI_add]
        exact h
    obtain ⟨v4, v5, h⟩ := loop k 0 .null .null (by omega)
    rw [h, B155_130, if_pos rfl, B155_134, M19r, Option.bind_some, h19, iL (by omega) (by omega)]
    by_cases n0 : n ≤ 0
    · rw [if_pos n0, show (List.range (n + 1)).map (fun z => bN ((fun _ => false) z)) = (List.range (n + 1)).map (fun z => bN (fch sc n k z)) from List.map_congr_left (fun z _ => by rw [e z, decide_eq_false (show ¬ z < n by omega), Bool.and_false])]
      exact fin _ _ _ _
    · rw [if_neg n0, B155_141, J136_72, Option.bind_some, iO1, U188 _ (by rw [vs, List.length_map, List.length_range]; omega) (by omega), Option.bind_some, vs, vv, set_bN (g := fch sc n k) (fun i h1 h2 => by rw [e i, decide_eq_false h2, Bool.false_and]) (fun _ => by rw [e 0, decide_eq_true (show 0 < n by omega)]; rfl)]
      exact fin _ _ _ _
  | some q =>
    have e : fch sc n k = chs sc n k := by funext z; unfold fch; rw [hb]
    have loop : ∀ (r i : Nat) (x2 : Int32) (v4 v5 : Value), i + r = k → (i ≠ 0 → x2 = nI 1) → ∃ v4' v5', xruns (O2 L) (zden L (d + 1)) 155 40 [.ref 136, .int (nI k), .int x2, .int (nI i), v4, v5] [] (ms z f J1 (va_up Al1 188 ((List.range (n + 1)).map (fun z => bN (chs sc n i z))))) = xruns (O2 L) (zden L (d + 1)) 155 130 [.ref 136, .int (nI k), .int (nI 1), .int (nI k), v4', v5'] [] (ms z f J1 (va_up Al1 188 ((List.range (n + 1)).map (fun z => bN (chs sc n k z))))) := by
      intro r
      induction r with
      | zero =>
        intro i x2 v4 v5 hi hx
        have : i = k := by omega
        subst this
        exact ⟨v4, v5, by rw [B155_40, if_pos (nI_le (Nat.le_refl _) (by omega)), hx (by omega)]⟩
      | succ r ih =>
        intro i x2 v4 v5 hi hx
        have ec : chs sc n (i + 1) = chN (chs sc n i) (bst sc (chs sc n i) n) := rfl
        rw [B155_40, iL (by omega) (by omega), if_neg (by omega), B155_45, best, B155_109]
        cases hq : bst sc (chs sc n i) n with
        | none =>
          rw [hq] at ec
          have ec : chs sc n (i + 1) = chs sc n i := ec
          have i0 : i ≠ 0 := fun w => by
            subst w
            have hq : bst sc (fun _ => false) n = none := hq
            rw [hb] at hq; cases hq
          obtain ⟨v4', v5', h⟩ := ih (i + 1) x2 (.int (-1)) (.int (nI n)) (by omega) (fun _ => hx i0)
          refine ⟨v4', v5', ?_⟩
          rw [ec] at h
          rw [if_pos (show fI none < nI 0 from by decide), B155_124, nI_add]
          exact h
        | some b =>
          rw [hq] at ec
          have ec : chs sc n (i + 1) = upB (chs sc n i) b := ec
          have bl := (bst_lt hq).1
          obtain ⟨v4', v5', h⟩ := ih (i + 1) (nI 1) (.int (nI b)) (.int (nI n)) (by omega) (fun _ => rfl)
          refine ⟨v4', v5', ?_⟩
          rw [ec] at h
          rw [if_neg (show ¬ fI (some b) < nI 0 from nI_p0 (show b < 2 ^ 31 by omega)), B155_114, J136_72, Option.bind_some, iO1]
          show (((O2 L).2.2.2.2.2.2.1 _ 1 188 (nI b) (nI 1)).bind _) = _
          rw [U188 _ (by rw [vs, List.length_map, List.length_range]; omega) (by omega), Option.bind_some, vs, vv, set_bN (g := upB (chs sc n i) b) (fun k h1 h2 => by unfold upB; rw [decide_eq_false h2, Bool.or_false]) (fun _ => by unfold upB; simp), B155_124, nI_add]
          exact h
    obtain ⟨v4, v5, h⟩ := loop k 0 (nI 0) .null .null (by omega) (fun q => absurd rfl q)
    have h : xruns (O2 L) (zden L (d + 1)) 155 40 [.ref 136, .int (nI k), .int (nI 0), .int (nI 0), .null, .null] [] (ms z f J1 (va_up Al1 188 ((List.range (n + 1)).map (fun z => bN ((fun _ => false) z))))) = _ := h
    rw [h, B155_130, if_neg (by decide), ← e]
    exact fin _ _ _ _
end
