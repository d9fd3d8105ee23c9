/-! ONE MACHINE FOLLOWS ANOTHER: heaps in a relation, addresses renamed -/
def xrn (f : Nat → Nat) (v : Value) : Value := match v with
  | .ref a => .ref (f a)
  | v => v
section
variable {Hp1 Hp2 : Type}
/-- the operations follow each other -/
def xOS (f : Nat → Nat) (S : Hp1 → Hp2 → Prop) (O1' : xOps Hp1) (O2' : xOps Hp2) : Prop :=
  (∀ h g a c k x, S h g → O2'.1 g a c k = some x → O1'.1 h (f a) c k = some x) ∧
  (∀ h g a c k b, S h g → O2'.2.1 g a c k = some b → O1'.2.1 h (f a) c k = some (f b)) ∧
  (∀ h g a c k v g', S h g → O2'.2.2.1 g a c k v = some g' → ∃ h', O1'.2.2.1 h (f a) c k (xrn f v) = some h' ∧ S h' g') ∧
  (∀ h g c w, S h g → O2'.2.2.2.1 g c = some w → ∃ h', O1'.2.2.2.1 h c = some (f w.1, h') ∧ S h' w.2) ∧
  (∀ h g t n w, S h g → O2'.2.2.2.2.1 g t n = some w → ∃ h', O1'.2.2.2.2.1 h t n = some (f w.1, h') ∧ S h' w.2) ∧
  (∀ h g t a i x, S h g → O2'.2.2.2.2.2.1 g t a i = some x → O1'.2.2.2.2.2.1 h t (f a) i = some x) ∧
  (∀ h g t a i x g', S h g → O2'.2.2.2.2.2.2.1 g t a i x = some g' → ∃ h', O1'.2.2.2.2.2.2.1 h t (f a) i x = some h' ∧ S h' g') ∧
  (∀ h g a x, S h g → O2'.2.2.2.2.2.2.2.1 g a = some x → O1'.2.2.2.2.2.2.2.1 h (f a) = some x)
variable {f : Nat → Nat}
theorem xnth_map (ls : List Value) (i : Nat) : xnth (ls.map (xrn f)) i = xrn f (xnth ls i) := by
  induction ls generalizing i with
  | nil => rfl
  | cons v l ih =>
    cases i with
    | zero => rfl
    | succ i => exact ih i
theorem xset_map (ls : List Value) (i : Nat) (v : Value) : xset (ls.map (xrn f)) i (xrn f v) = (xset ls i v).map (xrn f) := by
  induction ls generalizing i with
  | nil => rfl
  | cons w l ih =>
    cases i with
    | zero => rfl
    | succ i => simp [xset, ih]
theorem xpop_map (n : Nat) : ∀ (st acc as r : List Value), xpop n st acc = some (as, r) → xpop n (st.map (xrn f)) (acc.map (xrn f)) = some (as.map (xrn f), r.map (xrn f)) := by
  induction n with
  | zero => intro st acc as r h; cases h; rfl
  | succ n ih =>
    intro st acc as r h
    cases st with
    | nil => cases h
    | cons v st => exact ih st (v :: acc) as r h
theorem xcat_map (r : List Value) : xcat (r.map (xrn f)) = xcat r := by
  induction r with
  | nil => rfl
  | cons v r ih => cases v <;> first | exact ih | rfl
theorem xgd_map (r : List Value) : xgd (r.map (xrn f)) = xgd r := by
  unfold xgd
  rw [xcat_map, List.length_map]
theorem xpu_map (t : Nat) (x : Int32) (r : List Value) : xpu t x (r.map (xrn f)) = (xpu t x r).map (xrn f) := by
  unfold xpu
  cases Nat.beq t 2 <;> rfl
variable {S : Hp1 → Hp2 → Prop} {O1' : xOps Hp1} {O2' : xOps Hp2} {cl1 : Nat → List Value → Hp1 → Option (Int32 × Hp1)} {cl2 : Nat → List Value → Hp2 → Option (Int32 × Hp2)}
theorem xsim_cl {k1 : xK Hp1} {k2 : xK Hp2} (hc : ∀ m as h g r g', S h g → cl2 m as g = some (r, g') → ∃ h', cl1 m (as.map (xrn f)) h = some (r, h') ∧ S h' g')
    (hk : ∀ pc ls st h g q, S h g → k2 pc ls st g = some q → ∃ h', k1 pc (ls.map (xrn f)) (st.map (xrn f)) h = some (q.1, h') ∧ S h' q.2)
    {m a npc : Nat} {ls st : List Value} {h : Hp1} {g : Hp2} {q : Int32 × Hp2} (hS : S h g) (e : xcl cl2 k2 m a npc ls st g = some q) : ∃ h', xcl cl1 k1 m a npc (ls.map (xrn f)) (st.map (xrn f)) h = some (q.1, h') ∧ S h' q.2 := by
  unfold xcl at e
  split at e
  · next as rr hp =>
    cases hg : xgd rr with
    | false => rw [hg] at e; cases e
    | true =>
      rw [hg] at e
      obtain ⟨⟨w1, w2⟩, h1, h2⟩ := Option.bind_eq_some_iff.mp e
      obtain ⟨h', g1, g2⟩ := hc _ _ _ _ _ _ hS h1
      obtain ⟨h'', g3, g4⟩ := hk _ _ _ _ _ _ g2 h2
      refine ⟨h'', ?_, g4⟩
      unfold xcl
      rw [show xpop a (st.map (xrn f)) [] = some (as.map (xrn f), rr.map (xrn f)) from xpop_map a st [] as rr hp]
      simp only
      rw [xgd_map, hg, cond_true, g1, Option.bind_some, xpu_map]
      exact g3
  · cases e
theorem xsim_j {f1 : Nat → Option (Int32 × Hp1)} {f2 : Nat → Option (Int32 × Hp2)} {q : Int32 × Hp2} {pc : Nat} {off : Int} (hk : ∀ t, f2 t = some q → ∃ h', f1 t = some (q.1, h') ∧ S h' q.2) (e : xj pc off f2 = some q) : ∃ h', xj pc off f1 = some (q.1, h') ∧ S h' q.2 := by
  unfold xj at e ⊢
  split at e
  · next t he => exact hk t e
  · cases e
theorem xsim_sw {f1 : Nat → Option (Int32 × Hp1)} {f2 : Nat → Option (Int32 × Hp2)} {q : Int32 × Hp2} {pc : Nat} {d : Int} {x : Int32} (hk : ∀ t, f2 t = some q → ∃ h', f1 t = some (q.1, h') ∧ S h' q.2) (os : List Int) : ∀ lo : Int, xsw x lo os pc d f2 = some q → ∃ h', xsw x lo os pc d f1 = some (q.1, h') ∧ S h' q.2 := by
  induction os with
  | nil => exact fun lo e => xsim_j hk e
  | cons o os ih =>
    intro lo e
    unfold xsw at e ⊢
    split at e
    · next hx => rw [if_pos hx]; exact xsim_j hk e
    · next hx => rw [if_neg hx]; exact ih _ e
theorem xsim_lk {f1 : Nat → Option (Int32 × Hp1)} {f2 : Nat → Option (Int32 × Hp2)} {q : Int32 × Hp2} {pc : Nat} {d : Int} {x : Int32} (hk : ∀ t, f2 t = some q → ∃ h', f1 t = some (q.1, h') ∧ S h' q.2) (os : List (Int × Int)) : xlk x os pc d f2 = some q → ∃ h', xlk x os pc d f1 = some (q.1, h') ∧ S h' q.2 := by
  induction os with
  | nil => exact fun e => xsim_j hk e
  | cons o os ih =>
    intro e
    obtain ⟨v, o⟩ := o
    unfold xlk at e ⊢
    split at e
    · next hx => rw [if_pos hx]; exact xsim_j hk e
    · next hx => rw [if_neg hx]; exact ih e
set_option maxHeartbeats 8000000 in
theorem xsim_exec (hO : xOS f S O1' O2') {k1 : xK Hp1} {k2 : xK Hp2} (hc : ∀ m as h g r g', S h g → cl2 m as g = some (r, g') → ∃ h', cl1 m (as.map (xrn f)) h = some (r, h') ∧ S h' g')
    (hk : ∀ pc ls st h g q, S h g → k2 pc ls st g = some q → ∃ h', k1 pc (ls.map (xrn f)) (st.map (xrn f)) h = some (q.1, h') ∧ S h' q.2)
    {mi n pc : Nat} {i : Instr} {ls st : List Value} {h : Hp1} {g : Hp2} {q : Int32 × Hp2} (hS : S h g) (e1 : xexec O2' cl2 mi k2 i n pc ls st g = some q) : ∃ h', xexec O1' cl1 mi k1 i n pc (ls.map (xrn f)) (st.map (xrn f)) h = some (q.1, h') ∧ S h' q.2 := by
  obtain ⟨hI, hR, hP, hN, hA, hL, hT, hZ⟩ := hO
  cases i
  case aload_n j =>
    obtain ⟨a, hl, e2⟩ := xrf_some e1
    obtain ⟨h', g1, g2⟩ := hk _ _ _ _ _ _ hS e2
    exact ⟨h', by show xrf (xnth (ls.map (xrn f)) j) _ = _; rw [xnth_map, hl]; exact g1, g2⟩
  case aload j =>
    obtain ⟨a, hl, e2⟩ := xrf_some e1
    obtain ⟨h', g1, g2⟩ := hk _ _ _ _ _ _ hS e2
    exact ⟨h', by show xrf (xnth (ls.map (xrn f)) j) _ = _; rw [xnth_map, hl]; exact g1, g2⟩
  case iload_n j =>
    obtain ⟨a, hl, e2⟩ := xin_some e1
    obtain ⟨h', g1, g2⟩ := hk _ _ _ _ _ _ hS e2
    exact ⟨h', by show xin (xnth (ls.map (xrn f)) j) _ = _; rw [xnth_map, hl]; exact g1, g2⟩
  case iload j =>
    obtain ⟨a, hl, e2⟩ := xin_some e1
    obtain ⟨h', g1, g2⟩ := hk _ _ _ _ _ _ hS e2
    exact ⟨h', by show xin (xnth (ls.map (xrn f)) j) _ = _; rw [xnth_map, hl]; exact g1, g2⟩
  case istore_n j =>
    obtain ⟨x, rr, rfl, e2⟩ := xi1_some e1
    obtain ⟨h', g1, g2⟩ := hk _ _ _ _ _ _ hS e2
    rw [← xset_map] at g1
    exact ⟨h', g1, g2⟩
  case istore j =>
    obtain ⟨x, rr, rfl, e2⟩ := xi1_some e1
    obtain ⟨h', g1, g2⟩ := hk _ _ _ _ _ _ hS e2
    rw [← xset_map] at g1
    exact ⟨h', g1, g2⟩
  case astore_n j =>
    obtain ⟨x, rr, rfl, e2⟩ := xr1_some e1
    obtain ⟨h', g1, g2⟩ := hk _ _ _ _ _ _ hS e2
    rw [← xset_map] at g1
    exact ⟨h', g1, g2⟩
  case astore j =>
    obtain ⟨x, rr, rfl, e2⟩ := xr1_some e1
    obtain ⟨h', g1, g2⟩ := hk _ _ _ _ _ _ hS e2
    rw [← xset_map] at g1
    exact ⟨h', g1, g2⟩
  case iconst v =>
    exact hk _ _ _ _ _ _ hS e1
  case bipush v =>
    exact hk _ _ _ _ _ _ hS e1
  case sipush v =>
    exact hk _ _ _ _ _ _ hS e1
  case iinc j v =>
    obtain ⟨x, hl, e2⟩ := xin_some e1
    obtain ⟨h', g1, g2⟩ := hk _ _ _ _ _ _ hS e2
    rw [← xset_map] at g1
    exact ⟨h', by show xin (xnth (ls.map (xrn f)) j) _ = _; rw [xnth_map, hl]; exact g1, g2⟩
  case iadd =>
    obtain ⟨x, y, rr, rfl, e2⟩ := xi2_some e1
    exact hk _ _ _ _ _ _ hS e2
  case isub =>
    obtain ⟨x, y, rr, rfl, e2⟩ := xi2_some e1
    exact hk _ _ _ _ _ _ hS e2
  case imul =>
    obtain ⟨x, y, rr, rfl, e2⟩ := xi2_some e1
    exact hk _ _ _ _ _ _ hS e2
  case iand =>
    obtain ⟨x, y, rr, rfl, e2⟩ := xi2_some e1
    exact hk _ _ _ _ _ _ hS e2
  case ior =>
    obtain ⟨x, y, rr, rfl, e2⟩ := xi2_some e1
    exact hk _ _ _ _ _ _ hS e2
  case ishl =>
    obtain ⟨x, y, rr, rfl, e2⟩ := xi2_some e1
    exact hk _ _ _ _ _ _ hS e2
  case ishr =>
    obtain ⟨x, y, rr, rfl, e2⟩ := xi2_some e1
    exact hk _ _ _ _ _ _ hS e2
  case iushr =>
    obtain ⟨x, y, rr, rfl, e2⟩ := xi2_some e1
    exact hk _ _ _ _ _ _ hS e2
  case idiv =>
    obtain ⟨x, y, rr, rfl, e2⟩ := xi2_some e1
    split at e2
    · cases e2
    · next hy =>
      obtain ⟨h', g1, g2⟩ := hk _ _ _ _ _ _ hS e2
      refine ⟨h', ?_, g2⟩
      show (if y = 0 then none else _) = _
      rw [if_neg hy]
      exact g1
  case irem =>
    obtain ⟨x, y, rr, rfl, e2⟩ := xi2_some e1
    split at e2
    · cases e2
    · next hy =>
      obtain ⟨h', g1, g2⟩ := hk _ _ _ _ _ _ hS e2
      refine ⟨h', ?_, g2⟩
      show (if y = 0 then none else _) = _
      rw [if_neg hy]
      exact g1
  case dup =>
    cases st with
    | nil => cases e1
    | cons v rr =>
      cases v with
      | int x => exact hk _ _ _ _ _ _ hS e1
      | ref x => exact hk _ _ _ _ _ _ hS e1
      | _ => cases e1
  case dup2 =>
    obtain ⟨a, i, rr, rfl, e2⟩ := xri_some e1
    exact hk _ _ _ _ _ _ hS e2
  case pop =>
    obtain ⟨x, rr, rfl, e2⟩ := xi1_some e1
    exact hk _ _ _ _ _ _ hS e2
  case getfield j =>
    replace e1 : xgf O2' (xfl (xoc mi) j) k2 (pc + n) ls st g = some q := e1
    show ∃ h', xgf O1' (xfl (xoc mi) j) k1 (pc + n) _ _ h = _ ∧ _
    cases hf : xfl (xoc mi) j with
    | none => rw [hf] at e1; cases e1
    | some w =>
      obtain ⟨cc, fi, t⟩ := w
      rw [hf] at e1
      obtain ⟨a, rr, rfl, e2⟩ := xr1_some e1
      cases hb2 : Nat.beq t 2 with
      | true =>
        rw [hb2] at e2
        obtain ⟨b, g1, e3⟩ := Option.bind_eq_some_iff.mp e2
        obtain ⟨h', g2, g3⟩ := hk _ _ _ _ _ _ hS e3
        refine ⟨h', ?_, g3⟩
        show (bif Nat.beq t 2 then _ else _) = _
        rw [hb2, cond_true, hR _ _ _ _ _ _ hS g1]
        exact g2
      | false =>
        rw [hb2] at e2
        obtain ⟨b, g1, e3⟩ := Option.bind_eq_some_iff.mp e2
        obtain ⟨h', g2, g3⟩ := hk _ _ _ _ _ _ hS e3
        refine ⟨h', ?_, g3⟩
        show (bif Nat.beq t 2 then _ else _) = _
        rw [hb2, cond_false, hI _ _ _ _ _ _ hS g1]
        exact g2
  case putfield j =>
    replace e1 : xpf O2' (xfl (xoc mi) j) k2 (pc + n) ls st g = some q := e1
    show ∃ h', xpf O1' (xfl (xoc mi) j) k1 (pc + n) _ _ h = _ ∧ _
    cases hf : xfl (xoc mi) j with
    | none => rw [hf] at e1; cases e1
    | some w =>
      obtain ⟨cc, fi, t⟩ := w
      rw [hf] at e1
      replace e1 : (bif Nat.beq t 2 then (xrr st fun a b r => (O2'.2.2.1 g a cc fi (.ref b)).bind fun g' => k2 (pc + n) ls r g') else bif Nat.beq t 1 then (xri st fun a x r => if x = 0 ∨ x = 1 then (O2'.2.2.1 g a cc fi (.int x)).bind fun g' => k2 (pc + n) ls r g' else none) else (xri st fun a x r => (O2'.2.2.1 g a cc fi (.int x)).bind fun g' => k2 (pc + n) ls r g')) = some q := e1
      cases hb2 : Nat.beq t 2 with
      | true =>
        rw [hb2] at e1
        obtain ⟨a, b, rr, rfl, e3⟩ := xrr_some e1
        obtain ⟨hg, g1, e4⟩ := Option.bind_eq_some_iff.mp e3
        obtain ⟨h1, g2, g3⟩ := hP _ _ _ _ _ _ _ hS g1
        obtain ⟨h', g4, g5⟩ := hk _ _ _ _ _ _ g3 e4
        refine ⟨h', ?_, g5⟩
        simp only [xrn] at g2
        show (bif Nat.beq t 2 then _ else bif Nat.beq t 1 then _ else _) = _
        rw [hb2, cond_true]
        show (O1'.2.2.1 h (f a) cc fi (.ref (f b))).bind _ = _
        rw [g2]
        exact g4
      | false =>
        rw [hb2] at e1
        cases hb1 : Nat.beq t 1 with
        | true =>
          rw [hb1] at e1
          obtain ⟨a, x, rr, rfl, e2⟩ := xri_some e1
          split at e2
          · next hx01 =>
            have e3 := e2
            obtain ⟨hg, g1, e4⟩ := Option.bind_eq_some_iff.mp e3
            obtain ⟨h1, g2, g3⟩ := hP _ _ _ _ _ _ _ hS g1
            obtain ⟨h', g4, g5⟩ := hk _ _ _ _ _ _ g3 e4
            refine ⟨h', ?_, g5⟩
            simp only [xrn] at g2
            show (bif Nat.beq t 2 then _ else bif Nat.beq t 1 then _ else _) = _
            rw [hb2, hb1, cond_false, cond_true]
            show (if x = 0 ∨ x = 1 then (O1'.2.2.1 h (f a) cc fi (.int x)).bind _ else none) = _
            rw [if_pos hx01, g2]
            exact g4
          · cases e2
        | false =>
          rw [hb1] at e1
          obtain ⟨a, x, rr, rfl, e3⟩ := xri_some e1
          obtain ⟨hg, g1, e4⟩ := Option.bind_eq_some_iff.mp e3
          obtain ⟨h1, g2, g3⟩ := hP _ _ _ _ _ _ _ hS g1
          obtain ⟨h', g4, g5⟩ := hk _ _ _ _ _ _ g3 e4
          refine ⟨h', ?_, g5⟩
          simp only [xrn] at g2
          show (bif Nat.beq t 2 then _ else bif Nat.beq t 1 then _ else _) = _
          rw [hb2, hb1, cond_false, cond_false]
          show (O1'.2.2.1 h (f a) cc fi (.int x)).bind _ = _
          rw [g2]
          exact g4
  case invokevirtual j =>
    replace e1 : xiv cl2 (xmt (xoc mi) j) k2 (pc + n) ls st g = some q := e1
    show ∃ h', xiv cl1 (xmt (xoc mi) j) k1 (pc + n) _ _ h = _ ∧ _
    cases hmt : xmt (xoc mi) j with
    | none => rw [hmt] at e1; cases e1
    | some w =>
      obtain ⟨t, mj, na⟩ := w
      rw [hmt] at e1
      cases hb0 : Nat.beq t 0 with
      | false => simp only [xiv, hb0, cond_false] at e1; cases e1
      | true =>
        simp only [xiv, hb0, cond_true] at e1 ⊢
        exact xsim_cl hc hk hS e1
  case invokespecial j =>
    replace e1 : xip cl2 (xmt (xoc mi) j) k2 (pc + n) ls st g = some q := e1
    show ∃ h', xip cl1 (xmt (xoc mi) j) k1 (pc + n) _ _ h = _ ∧ _
    cases hmt : xmt (xoc mi) j with
    | none => rw [hmt] at e1; cases e1
    | some w =>
      obtain ⟨t, mj, na⟩ := w
      rw [hmt] at e1
      cases hb3 : Nat.beq t 3 with
      | true =>
        simp only [xip, hb3, cond_true] at e1 ⊢
        obtain ⟨a, rr, rfl, e2⟩ := xr1_some e1
        cases hgd : xgd rr with
        | false => rw [hgd] at e2; cases e2
        | true =>
          rw [hgd] at e2
          obtain ⟨h', g1, g2⟩ := hk _ _ _ _ _ _ hS e2
          refine ⟨h', ?_, g2⟩
          show (bif xgd (rr.map (xrn f)) then _ else none) = _
          rw [xgd_map, hgd]
          exact g1
      | false =>
        cases hb2 : Nat.beq t 2 with
        | false => simp only [xip, hb3, hb2, cond_false] at e1; cases e1
        | true =>
          simp only [xip, hb3, hb2, cond_true, cond_false] at e1 ⊢
          exact xsim_cl hc hk hS e1
  case invokestatic j =>
    replace e1 : xis cl2 (xmt (xoc mi) j) k2 (pc + n) ls st g = some q := e1
    show ∃ h', xis cl1 (xmt (xoc mi) j) k1 (pc + n) _ _ h = _ ∧ _
    cases hmt : xmt (xoc mi) j with
    | none => rw [hmt] at e1; cases e1
    | some w =>
      obtain ⟨t, mj, na⟩ := w
      rw [hmt] at e1
      cases hb4 : Nat.beq t 4 with
      | true =>
        simp only [xis, hb4, cond_true] at e1 ⊢
        obtain ⟨x, y, rr, rfl, e2⟩ := xi2_some e1
        cases hgd : xgd rr with
        | false => rw [hgd] at e2; cases e2
        | true =>
          rw [hgd] at e2
          obtain ⟨h', g1, g2⟩ := hk _ _ _ _ _ _ hS e2
          refine ⟨h', ?_, g2⟩
          show (bif xgd (rr.map (xrn f)) then _ else none) = _
          rw [xgd_map, hgd]
          exact g1
      | false =>
        cases hb5 : Nat.beq t 5 with
        | true =>
          simp only [xis, hb4, hb5, cond_true, cond_false] at e1 ⊢
          obtain ⟨x, y, rr, rfl, e2⟩ := xi2_some e1
          cases hgd : xgd rr with
          | false => rw [hgd] at e2; cases e2
          | true =>
            rw [hgd] at e2
            obtain ⟨h', g1, g2⟩ := hk _ _ _ _ _ _ hS e2
            refine ⟨h', ?_, g2⟩
            show (bif xgd (rr.map (xrn f)) then _ else none) = _
            rw [xgd_map, hgd]
            exact g1
        | false =>
          cases hb1 : Nat.beq t 1 with
          | true =>
            simp only [xis, hb4, hb5, hb1, cond_true, cond_false] at e1 ⊢
            exact xsim_cl hc hk hS e1
          | false =>
            cases hb6 : Nat.beq t 6 with
            | false => simp only [xis, hb4, hb5, hb1, hb6, cond_false] at e1; cases e1
            | true =>
              simp only [xis, hb4, hb5, hb1, hb6, cond_true, cond_false] at e1 ⊢
              exact xsim_cl hc hk hS e1
  case new j =>
    obtain ⟨cc, hf, e2⟩ := Option.bind_eq_some_iff.mp e1
    obtain ⟨w, g1, e3⟩ := Option.bind_eq_some_iff.mp e2
    obtain ⟨h1, g2, g3⟩ := hN _ _ _ _ hS g1
    obtain ⟨h', g4, g5⟩ := hk _ _ _ _ _ _ g3 e3
    refine ⟨h', ?_, g5⟩
    show (xcn (xoc mi) j).bind _ = _
    rw [hf, Option.bind_some, g2]
    exact g4
  case newarray ty =>
    replace e1 : xna1 O2' ty k2 (pc + n) ls st g = some q := e1
    show ∃ h', xna1 O1' ty k1 (pc + n) _ _ h = _ ∧ _
    cases ty
    case int =>
      obtain ⟨x, rr, rfl, e2⟩ := xi1_some e1
      obtain ⟨w, g1, e3⟩ := Option.bind_eq_some_iff.mp e2
      obtain ⟨h1, g2, g3⟩ := hA _ _ _ _ _ hS g1
      obtain ⟨h', g4, g5⟩ := hk _ _ _ _ _ _ g3 e3
      refine ⟨h', ?_, g5⟩
      show (O1'.2.2.2.2.1 h _ x).bind _ = _
      rw [g2]
      exact g4
    case boolean =>
      obtain ⟨x, rr, rfl, e2⟩ := xi1_some e1
      obtain ⟨w, g1, e3⟩ := Option.bind_eq_some_iff.mp e2
      obtain ⟨h1, g2, g3⟩ := hA _ _ _ _ _ hS g1
      obtain ⟨h', g4, g5⟩ := hk _ _ _ _ _ _ g3 e3
      refine ⟨h', ?_, g5⟩
      show (O1'.2.2.2.2.1 h _ x).bind _ = _
      rw [g2]
      exact g4
    all_goals cases e1
  case iaload =>
    obtain ⟨a, i, rr, rfl, e2⟩ := xri_some e1
    obtain ⟨x, g1, e3⟩ := Option.bind_eq_some_iff.mp e2
    obtain ⟨h', g4, g5⟩ := hk _ _ _ _ _ _ hS e3
    refine ⟨h', ?_, g5⟩
    show (O1'.2.2.2.2.2.1 h _ (f a) i).bind _ = _
    rw [hL _ _ _ _ _ _ hS g1]
    exact g4
  case baload =>
    obtain ⟨a, i, rr, rfl, e2⟩ := xri_some e1
    obtain ⟨x, g1, e3⟩ := Option.bind_eq_some_iff.mp e2
    obtain ⟨h', g4, g5⟩ := hk _ _ _ _ _ _ hS e3
    refine ⟨h', ?_, g5⟩
    show (O1'.2.2.2.2.2.1 h _ (f a) i).bind _ = _
    rw [hL _ _ _ _ _ _ hS g1]
    exact g4
  case iastore =>
    obtain ⟨a, i, x, rr, rfl, e2⟩ := xrii_some e1
    obtain ⟨hg, g1, e3⟩ := Option.bind_eq_some_iff.mp e2
    obtain ⟨h1, g2, g3⟩ := hT _ _ _ _ _ _ _ hS g1
    obtain ⟨h', g4, g5⟩ := hk _ _ _ _ _ _ g3 e3
    refine ⟨h', ?_, g5⟩
    show (O1'.2.2.2.2.2.2.1 h _ (f a) i x).bind _ = _
    rw [g2]
    exact g4
  case bastore =>
    obtain ⟨a, i, x, rr, rfl, e2⟩ := xrii_some e1
    split at e2
    · next hx01 =>
      obtain ⟨hg, g1, e3⟩ := Option.bind_eq_some_iff.mp e2
      obtain ⟨h1, g2, g3⟩ := hT _ _ _ _ _ _ _ hS g1
      obtain ⟨h', g4, g5⟩ := hk _ _ _ _ _ _ g3 e3
      refine ⟨h', ?_, g5⟩
      show (if x = 0 ∨ x = 1 then (O1'.2.2.2.2.2.2.1 h _ (f a) i x).bind _ else none) = _
      rw [if_pos hx01, g2]
      exact g4
    · cases e2
  case arraylength =>
    obtain ⟨a, rr, rfl, e2⟩ := xr1_some e1
    obtain ⟨x, g1, e3⟩ := Option.bind_eq_some_iff.mp e2
    obtain ⟨h', g4, g5⟩ := hk _ _ _ _ _ _ hS e3
    refine ⟨h', ?_, g5⟩
    show (O1'.2.2.2.2.2.2.2.1 h (f a)).bind _ = _
    rw [hZ _ _ _ _ hS g1]
    exact g4
  case ifCond c off =>
    obtain ⟨x, rr, rfl, e2⟩ := xi1_some e1
    cases c
    case eq =>
      replace e2 : (if x = 0 then xj pc off fun t => k2 t ls rr g else k2 (pc + n) ls rr g) = some q := e2
      show ∃ h', (if x = 0 then _ else _) = _ ∧ _
      split at e2
      · next hcc =>
        rw [if_pos hcc]
        exact xsim_j (fun t e3 => hk _ _ _ _ _ _ hS e3) e2
      · next hcc =>
        rw [if_neg hcc]
        exact hk _ _ _ _ _ _ hS e2
    case ne =>
      replace e2 : (if x = 0 then k2 (pc + n) ls rr g else xj pc off fun t => k2 t ls rr g) = some q := e2
      show ∃ h', (if x = 0 then _ else _) = _ ∧ _
      split at e2
      · next hcc =>
        rw [if_pos hcc]
        exact hk _ _ _ _ _ _ hS e2
      · next hcc =>
        rw [if_neg hcc]
        exact xsim_j (fun t e3 => hk _ _ _ _ _ _ hS e3) e2
    case lt =>
      replace e2 : (if x < 0 then xj pc off fun t => k2 t ls rr g else k2 (pc + n) ls rr g) = some q := e2
      show ∃ h', (if x < 0 then _ else _) = _ ∧ _
      split at e2
      · next hcc =>
        rw [if_pos hcc]
        exact xsim_j (fun t e3 => hk _ _ _ _ _ _ hS e3) e2
      · next hcc =>
        rw [if_neg hcc]
        exact hk _ _ _ _ _ _ hS e2
    case ge =>
      replace e2 : (if 0 ≤ x then xj pc off fun t => k2 t ls rr g else k2 (pc + n) ls rr g) = some q := e2
      show ∃ h', (if 0 ≤ x then _ else _) = _ ∧ _
      split at e2
      · next hcc =>
        rw [if_pos hcc]
        exact xsim_j (fun t e3 => hk _ _ _ _ _ _ hS e3) e2
      · next hcc =>
        rw [if_neg hcc]
        exact hk _ _ _ _ _ _ hS e2
    case gt =>
      replace e2 : (if 0 < x then xj pc off fun t => k2 t ls rr g else k2 (pc + n) ls rr g) = some q := e2
      show ∃ h', (if 0 < x then _ else _) = _ ∧ _
      split at e2
      · next hcc =>
        rw [if_pos hcc]
        exact xsim_j (fun t e3 => hk _ _ _ _ _ _ hS e3) e2
      · next hcc =>
        rw [if_neg hcc]
        exact hk _ _ _ _ _ _ hS e2
    case le =>
      replace e2 : (if x ≤ 0 then xj pc off fun t => k2 t ls rr g else k2 (pc + n) ls rr g) = some q := e2
      show ∃ h', (if x ≤ 0 then _ else _) = _ ∧ _
      split at e2
      · next hcc =>
        rw [if_pos hcc]
        exact xsim_j (fun t e3 => hk _ _ _ _ _ _ hS e3) e2
      · next hcc =>
        rw [if_neg hcc]
        exact hk _ _ _ _ _ _ hS e2
  case if_icmp c off =>
    obtain ⟨x, y, rr, rfl, e2⟩ := xi2_some e1
    cases c
    case eq =>
      replace e2 : (if x = y then xj pc off fun t => k2 t ls rr g else k2 (pc + n) ls rr g) = some q := e2
      show ∃ h', (if x = y then _ else _) = _ ∧ _
      split at e2
      · next hcc =>
        rw [if_pos hcc]
        exact xsim_j (fun t e3 => hk _ _ _ _ _ _ hS e3) e2
      · next hcc =>
        rw [if_neg hcc]
        exact hk _ _ _ _ _ _ hS e2
    case ne =>
      replace e2 : (if x = y then k2 (pc + n) ls rr g else xj pc off fun t => k2 t ls rr g) = some q := e2
      show ∃ h', (if x = y then _ else _) = _ ∧ _
      split at e2
      · next hcc =>
        rw [if_pos hcc]
        exact hk _ _ _ _ _ _ hS e2
      · next hcc =>
        rw [if_neg hcc]
        exact xsim_j (fun t e3 => hk _ _ _ _ _ _ hS e3) e2
    case lt =>
      replace e2 : (if x < y then xj pc off fun t => k2 t ls rr g else k2 (pc + n) ls rr g) = some q := e2
      show ∃ h', (if x < y then _ else _) = _ ∧ _
      split at e2
      · next hcc =>
        rw [if_pos hcc]
        exact xsim_j (fun t e3 => hk _ _ _ _ _ _ hS e3) e2
      · next hcc =>
        rw [if_neg hcc]
        exact hk _ _ _ _ _ _ hS e2
    case ge =>
      replace e2 : (if y ≤ x then xj pc off fun t => k2 t ls rr g else k2 (pc + n) ls rr g) = some q := e2
      show ∃ h', (if y ≤ x then _ else _) = _ ∧ _
      split at e2
      · next hcc =>
        rw [if_pos hcc]
        exact xsim_j (fun t e3 => hk _ _ _ _ _ _ hS e3) e2
      · next hcc =>
        rw [if_neg hcc]
        exact hk _ _ _ _ _ _ hS e2
    case gt =>
      replace e2 : (if y < x then xj pc off fun t => k2 t ls rr g else k2 (pc + n) ls rr g) = some q := e2
      show ∃ h', (if y < x then _ else _) = _ ∧ _
      split at e2
      · next hcc =>
        rw [if_pos hcc]
        exact xsim_j (fun t e3 => hk _ _ _ _ _ _ hS e3) e2
      · next hcc =>
        rw [if_neg hcc]
        exact hk _ _ _ _ _ _ hS e2
    case le =>
      replace e2 : (if x ≤ y then xj pc off fun t => k2 t ls rr g else k2 (pc + n) ls rr g) = some q := e2
      show ∃ h', (if x ≤ y then _ else _) = _ ∧ _
      split at e2
      · next hcc =>
        rw [if_pos hcc]
        exact xsim_j (fun t e3 => hk _ _ _ _ _ _ hS e3) e2
      · next hcc =>
        rw [if_neg hcc]
        exact hk _ _ _ _ _ _ hS e2
  case goto off =>
    exact xsim_j (fun t e3 => hk _ _ _ _ _ _ hS e3) e1
  case tableswitch dd lo hi offs =>
    obtain ⟨x, rr, rfl, e2⟩ := xi1_some e1
    exact xsim_sw (fun t e3 => hk _ _ _ _ _ _ hS e3) _ _ e2
  case lookupswitch dd ps =>
    obtain ⟨x, rr, rfl, e2⟩ := xi1_some e1
    exact xsim_lk (fun t e3 => hk _ _ _ _ _ _ hS e3) _ e2
  case ireturn =>
    replace e1 : xret (xry mi) st g = some q := e1
    show ∃ h', xret (xry mi) _ h = _ ∧ _
    cases st with
    | nil => cases e1
    | cons v rr =>
      cases rr with
      | cons v2 rr => cases v <;> cases e1
      | nil =>
        cases v with
        | int x =>
          replace e1 : (bif Nat.beq (xry mi) 1 then (if x = 0 ∨ x = 1 then some (x, g) else none) else bif Nat.beq (xry mi) 0 then some (x, g) else none) = some q := e1
          show ∃ h', (bif Nat.beq (xry mi) 1 then (if x = 0 ∨ x = 1 then some (x, h) else none) else bif Nat.beq (xry mi) 0 then some (x, h) else none) = _ ∧ _
          cases hb1 : Nat.beq (xry mi) 1 with
          | true =>
            rw [hb1] at e1
            simp only [cond_true] at e1 ⊢
            split at e1
            · next hx01 =>
              cases e1
              exact ⟨h, by rw [if_pos hx01], hS⟩
            · cases e1
          | false =>
            rw [hb1] at e1
            simp only [cond_false] at e1 ⊢
            cases hb0 : Nat.beq (xry mi) 0 with
            | true =>
              rw [hb0] at e1
              cases e1
              exact ⟨h, rfl, hS⟩
            | false => rw [hb0] at e1; cases e1
        | _ => cases e1
  case return_ =>
    replace e1 : xvret (xry mi) st g = some q := e1
    show ∃ h', xvret (xry mi) _ h = _ ∧ _
    cases st with
    | cons v rr => cases e1
    | nil =>
      replace e1 : (bif Nat.beq (xry mi) 2 then some (0, g) else none) = some q := e1
      show ∃ h', (bif Nat.beq (xry mi) 2 then some (0, h) else none) = _ ∧ _
      cases hb2 : Nat.beq (xry mi) 2 with
      | true =>
        rw [hb2] at e1
        cases e1
        exact ⟨h, rfl, hS⟩
      | false => rw [hb2] at e1; cases e1
  all_goals cases e1
theorem xsim_run (hO : xOS f S O1' O2') (hc : ∀ m as h g r g', S h g → cl2 m as g = some (r, g') → ∃ h', cl1 m (as.map (xrn f)) h = some (r, h') ∧ S h' g') {mi : Nat} : ∀ (n pc : Nat) (ls st : List Value) (h : Hp1) (g : Hp2) (q : Int32 × Hp2), S h g → xrun O2' cl2 mi n pc ls st g = some q → ∃ h', xrun O1' cl1 mi n pc (ls.map (xrn f)) (st.map (xrn f)) h = some (q.1, h') ∧ S h' q.2 := by
  intro n
  induction n with
  | zero => intro pc ls st h g q hS e; cases e
  | succ n ih =>
    intro pc ls st h g q hS e
    replace e : xstep O2' cl2 mi (xrun O2' cl2 mi n) pc ls st g = some q := e
    show ∃ h', xstep O1' cl1 mi (xrun O1' cl1 mi n) pc _ _ h = _ ∧ _
    unfold xstep at e ⊢
    cases hcd : xcd mi pc with
    | none => rw [hcd] at e; cases e
    | some w =>
      rw [hcd] at e
      exact xsim_exec hO hc (fun pc ls st h g q hS e => ih pc ls st h g q hS e) hS e
theorem xsim_runs (hO : xOS f S O1' O2') (hc : ∀ m as h g r g', S h g → cl2 m as g = some (r, g') → ∃ h', cl1 m (as.map (xrn f)) h = some (r, h') ∧ S h' g') {mi pc : Nat} {ls st : List Value} {h : Hp1} {g : Hp2} {q : Int32 × Hp2} (hS : S h g) (e : xruns O2' cl2 mi pc ls st g = some q) : ∃ h', xruns O1' cl1 mi pc (ls.map (xrn f)) (st.map (xrn f)) h = some (q.1, h') ∧ S h' q.2 := by
  obtain ⟨n, hn⟩ := xruns_iff.mp e
  obtain ⟨h', h1, h2⟩ := xsim_run hO hc n pc ls st h g q hS hn
  exact ⟨h', xruns_iff.mpr ⟨n, h1⟩, h2⟩
end
