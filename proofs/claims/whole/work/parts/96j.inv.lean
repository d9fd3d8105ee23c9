/-! THE LAW: what class and reference hold between two calls -/
def INV (xs : Nat → Int32) (Z : zS) : Prop := ∃ (tp bs : List Nat) (Q : CT) (S : Option Sem) (lim : Nat) (pf pl ot : List Nat), BB tp ∧ BB bs ∧ (cread bs).1 = none ∧ QOK Q S ∧ lim ≤ 300 ∧ PLC ((cread bs).2.1 8).length pf pl ∧ pf.length ≤ 9 ∧ ot.length ≤ 4539 ∧ CI Z tp bs Q S lim pf pl ot ∧ MI xs (Z.2.1 136) Z.2.2.1 tp bs Q S lim pf pl ot
theorem INV.script {xs : Nat → Int32} {Z : zS} (h : INV xs Z) (i : Nat) : Z.2.2.1 0 i = xs i := by
  obtain ⟨tp, bs, Q, S, lim, pf, pl, ot, _, _, _, _, _, _, _, _, _, m⟩ := h
  obtain ⟨J, Al, eA, j0, _⟩ := m
  rw [eA, ← j0]
  unfold AR
  rw [if_neg (by omega)]
/-- one call of both -/
def OPR (L : Nat) (xs : Nat → Int32) (Z : zS) (mc mm : Nat) (as : List Value) : Prop := ∃ v Z1 Z2, zden L 9 mc (.ref 1 :: as) Z = some (v, Z1) ∧ zden L 9 mm (.ref 136 :: as) Z1 = some (v, Z2) ∧ INV xs Z2 ∧ Z1.2.2.1 = Z.2.2.1
theorem PLC_nil (W : Nat) : PLC W [] [] := ⟨rfl, fun k hk => by cases hk⟩
theorem cread_le {tp : List Nat} {p : Nat} (hc : (cread tp).1 = some p) : p ≤ tp.length := by
  unfold cread at hc
  have i2 := cgo_wf (bs := tp) tp.length 0 (T0 tp) (WfT0 tp) (by omega) rfl
  cases hq : cgo tp tp.length 0 (T0 tp) with
  | mk o T =>
    rw [hq] at hc i2
    cases o with
    | some x =>
      cases hc
      exact Nat.le_of_lt (i2.2.2 p rfl)
    | none =>
      simp only at hc
      split at hc
      · cases hc
      · cases hc; exact Nat.le_refl _
section
variable {L : Nat} {xs : Nat → Int32} {Z : zS}
theorem MI.sm {Z1 : zS} {tp bs : List Nat} {Q : CT} {S : Option Sem} {lim : Nat} {pf pl ot : List Nat} (h : MI xs (Z.2.1 136) Z.2.2.1 tp bs Q S lim pf pl ot) (sm : SM Z Z1) : MI xs (Z1.2.1 136) Z1.2.2.1 tp bs Q S lim pf pl ot := by
  rw [sm.1, sm.2]; exact h
theorem CI.sc {Z2 : zS} {tp bs : List Nat} {Q : CT} {S : Option Sem} {lim : Nat} {pf pl ot : List Nat} (h : CI Z tp bs Q S lim pf pl ot) (sc : SC Z Z2) : CI Z2 tp bs Q S lim pf pl ot := h.model sc.1 sc.2.1 sc.2.2
theorem op_feed (h : INV xs Z) (x1 x2 x3 x4 x5 : Int32) : OPR L xs Z 87 113 [.int x1, .int x2, .int x3, .int x4, .int x5] := by
  have h0 := h
  obtain ⟨tp, bs, Q, S, lim, pf, pl, ot, b1, b2, rd, qo, l3, pc, h9, ho, c, m⟩ := h
  obtain ⟨c1, c2⟩ := C_feed (L := L) (d := 5) c b1 x1 x2 x3 x4 x5
  by_cases cc : tp.length + 20 ≤ 1000
  · obtain ⟨Z1, sm, e1, k1⟩ := c1 cc
    obtain ⟨Z2, sc, e2, k2⟩ := (M_feed (L := L) (d := 8) (m.sm sm) b1 x1 x2 x3 x4 x5).1 cc
    refine ⟨_, Z1, Z2, e1, e2, ⟨tp ++ by20 x1 x2 x3 x4 x5, bs, Q, S, lim, pf, pl, ot, ⟨fun x hx => ?_, by rw [List.length_append, by20_len]; exact cc⟩, b2, rd, qo, l3, pc, h9, ho, k1.sc sc, k2⟩, sm.2⟩
    rcases List.mem_append.mp hx with q | q
    · exact b1.1 x q
    · unfold by20 at q
      simp only [List.mem_append] at q
      have f4 : ∀ y : Int32, x ∈ by4 y → x < 256 := fun y hy => by
        unfold by4 at hy
        simp only [List.mem_cons, List.not_mem_nil, or_false] at hy
        rcases hy with e | e | e | e <;> rw [e] <;> exact byN_lt _ _
      rcases q with (((q | q) | q) | q) | q <;> exact f4 _ q
  · have e1 := c2 cc
    have e2 := (M_feed (L := L) (d := 8) m b1 x1 x2 x3 x4 x5).2 cc
    exact ⟨_, Z, Z, e1, e2, h0, rfl⟩
theorem op_cut (h : INV xs Z) (x : Int32) : OPR L xs Z 88 114 [.int x] := by
  have h0 := h
  obtain ⟨tp, bs, Q, S, lim, pf, pl, ot, b1, b2, rd, qo, l3, pc, h9, ho, c, m⟩ := h
  have bl := b1.2
  have bad : x < nI 0 ∨ ¬ x ≤ nI tp.length → OPR L xs Z 88 114 [.int x] := fun q => ⟨_, Z, Z, (C_cut (L := L) (d := 7) c b1 x).2 q, (M_cut (L := L) (d := 8) m b1 x).2 q, h0, rfl⟩
  rcases i_cases x with q | ⟨k, hk, rfl⟩
  · exact bad (Or.inl q)
  · by_cases cc : k ≤ tp.length
    · obtain ⟨Z1, sm, e1, k1⟩ := (C_cut (L := L) (d := 7) c b1 (nI k)).1 k rfl cc
      obtain ⟨Z2, sc, e2, k2⟩ := (M_cut (L := L) (d := 8) (m.sm sm) b1 (nI k)).1 k rfl cc
      exact ⟨_, Z1, Z2, e1, e2, ⟨tp.take k, bs, Q, S, lim, pf, pl, ot, ⟨fun y hy => b1.1 y (List.mem_of_mem_take hy), by rw [List.length_take]; omega⟩, b2, rd, qo, l3, pc, h9, ho, k1.sc sc, k2⟩, sm.2⟩
    · exact bad (Or.inr (fun q => cc ((nI_leI hk (by omega)).mp q)))
theorem op_text (h : INV xs Z) : OPR L xs Z 89 122 [] := by
  obtain ⟨tp, bs, Q, S, lim, pf, pl, ot, b1, b2, rd, qo, l3, pc, h9, ho, c, m⟩ := h
  obtain ⟨Z1, sm, c1, c2⟩ := c_text (L := L) (d := 0) c b1 b2 rd qo l3
  obtain ⟨Z2, sc, m1, m2⟩ := m_text (L := L) (d := 2) (m.sm sm) b1 b2 rd qo l3
  cases hc : (cread tp).1 with
  | some p =>
    obtain ⟨e1, k1⟩ := c1 p hc
    obtain ⟨e2, k2⟩ := m1 p hc (cread_le hc)
    exact ⟨_, Z1, Z2, e1, e2, ⟨[], bs, Q, S, lim, [], [], ot, ⟨(fun x hx => by cases hx), Nat.zero_le _⟩, b2, rd, qo, l3, PLC_nil _, Nat.zero_le _, ho, k1.sc sc, k2⟩, sm.2⟩
  | none =>
    obtain ⟨e1, k1⟩ := c2 hc
    obtain ⟨e2, k2⟩ := m2 hc
    exact ⟨_, Z1, Z2, e1, e2, ⟨[], tp, Q, S, lim, [], [], ot, ⟨(fun x hx => by cases hx), Nat.zero_le _⟩, b1, hc, qo, l3, PLC_nil _, Nat.zero_le _, ho, k1.sc sc, k2⟩, sm.2⟩
theorem op_query (h : INV xs Z) : OPR L xs Z 90 134 [] := by
  obtain ⟨tp, bs, Q, S, lim, pf, pl, ot, b1, b2, rd, qo, l3, pc, h9, ho, c, m⟩ := h
  obtain ⟨Z1, sm, c1, c2⟩ := c_query (L := L) (d := 0) c b1 b2 rd l3
  obtain ⟨Z2, sc, m1, m2⟩ := m_query (L := L) (d := 1) (m.sm sm) b1 b2 rd qo l3
  cases hc : (qread tp).1 with
  | some p =>
    obtain ⟨e1, _, k1⟩ := c1 p hc
    obtain ⟨e2, k2⟩ := m1 p hc
    exact ⟨_, Z1, Z2, e1, e2, ⟨[], bs, Q, S, lim, [], [], ot, ⟨(fun x hx => by cases hx), Nat.zero_le _⟩, b2, rd, qo, l3, PLC_nil _, Nat.zero_le _, ho, k1.sc sc, k2⟩, sm.2⟩
  | none =>
    obtain ⟨e1, k1⟩ := c2 hc
    obtain ⟨e2, k2⟩ := m2 hc
    exact ⟨_, Z1, Z2, e1, e2, ⟨[], bs, (qread tp).2.1, some (finS (qread tp).2.2.2), lim, [], [], ot, ⟨(fun x hx => by cases hx), Nat.zero_le _⟩, b2, rd, (qry_ok b1 hc).1, l3, PLC_nil _, Nat.zero_le _, ho, k1.sc sc, k2⟩, sm.2⟩
theorem op_limit (h : INV xs Z) (x : Int32) : OPR L xs Z 91 135 [.int x] := by
  have h0 := h
  obtain ⟨tp, bs, Q, S, lim, pf, pl, ot, b1, b2, rd, qo, l3, pc, h9, ho, c, m⟩ := h
  have bad : x < nI 0 ∨ ¬ x ≤ nI 300 → OPR L xs Z 91 135 [.int x] := fun q => ⟨_, Z, Z, (c_limit (L := L) (d := 0) c b2 rd qo x).1 q, (m_limit (L := L) (d := 2) m b2 rd qo x).1 q, h0, rfl⟩
  rcases i_cases x with q | ⟨k, hk, rfl⟩
  · exact bad (Or.inl q)
  · by_cases cc : k ≤ 300
    · obtain ⟨Z1, sm, e1, k1⟩ := (c_limit (L := L) (d := 0) c b2 rd qo (nI k)).2 k rfl cc
      obtain ⟨Z2, sc, e2, k2⟩ := (m_limit (L := L) (d := 2) (m.sm sm) b2 rd qo (nI k)).2 k rfl cc
      exact ⟨_, Z1, Z2, e1, e2, ⟨tp, bs, Q, S, k, [], [], ot, b1, b2, rd, qo, cc, PLC_nil _, Nat.zero_le _, ho, k1.sc sc, k2⟩, sm.2⟩
    · exact bad (Or.inr (fun q => cc ((nI_leI hk (by omega)).mp q)))
theorem op_passages (h : INV xs Z) (x : Int32) : OPR L xs Z 98 155 [.int x] := by
  have h0 := h
  obtain ⟨tp, bs, Q, S, lim, pf, pl, ot, b1, b2, rd, qo, l3, pc, h9, ho, c, m⟩ := h
  have bad : x < nI 1 ∨ ¬ x ≤ nI 9 → OPR L xs Z 98 155 [.int x] := fun q => ⟨_, Z, Z, (C_passages (L := L) (d := 4) c b2 rd qo x).2 q, (M_passages (L := L) (d := 7) m b2 rd qo l3 x).2 q, h0, rfl⟩
  rcases i_cases x with q | ⟨k, hk, rfl⟩
  · exact bad (Or.inl (by
      rw [Int32.lt_iff_toInt_lt] at q ⊢
      rw [nI_toInt (by omega)] at q ⊢
      omega))
  · by_cases k1 : 1 ≤ k
    · by_cases k9 : k ≤ 9
      · obtain ⟨Z1, sm, e1, y1⟩ := (C_passages (L := L) (d := 4) c b2 rd qo (nI k)).1 k rfl k1 k9
        obtain ⟨Z2, sc, e2, y2⟩ := (M_passages (L := L) (d := 7) (m.sm sm) b2 rd qo l3 (nI k)).1 k rfl k1 k9
        have H := jdm_fch (scrZ bs Q S lim) ((cread bs).2.1 8).length k
        obtain ⟨p1, p2⟩ := places H
        have cnt := pfA_le9 (fch_cnt (sc := scrZ bs Q S lim) (n := ((cread bs).2.1 8).length) k1) (Nat.le_refl _)
        exact ⟨_, Z1, Z2, e1, e2, ⟨tp, bs, Q, S, lim, _, _, ot, b1, b2, rd, qo, l3, ⟨p1, fun j hj => ⟨(p2 j hj).2.1, (p2 j hj).2.2.1, (p2 j hj).2.2.2.2.2⟩⟩, by omega, ho, y1.sc sc, y2⟩, sm.2⟩
      · exact bad (Or.inr (fun q => k9 ((nI_leI hk (by omega)).mp q)))
    · exact bad (Or.inl ((nI_ltI hk (by omega)).mpr (by omega)))
theorem op_print (h : INV xs Z) (x : Int32) : OPR L xs Z 100 161 [.int x] := by
  obtain ⟨tp, bs, Q, S, lim, pf, pl, ot, b1, b2, rd, qo, l3, pc, h9, ho, c, m⟩ := h
  obtain ⟨Z1, sm, e1, k1⟩ := C_print (L := L) (d := 1) c b2 rd qo pc h9 x
  obtain ⟨Z2, sc, e2, k2⟩ := M_print (L := L) (d := 5) (m.sm sm) b2 rd qo l3 pc h9 x
  obtain ⟨T', pi⟩ := pi_read rd
  exact ⟨_, Z1, Z2, e1, e2, ⟨tp, bs, Q, S, lim, pf, pl, _, b1, b2, rd, qo, l3, pc, h9, outZ_len b2 rd pi pc h9 x, k1.sc sc, k2⟩, sm.2⟩
theorem op_get (h : INV xs Z) : OPR L xs Z 92 143 [] ∧ (∀ x w, OPR L xs Z 93 145 [.int x, .int w]) ∧ (∀ x w, OPR L xs Z 94 146 [.int x, .int w]) ∧ (∀ x w, OPR L xs Z 95 149 [.int x, .int w]) ∧ (∀ x w, OPR L xs Z 96 150 [.int x, .int w]) ∧ (∀ x w, OPR L xs Z 97 154 [.int x, .int w]) ∧ (∀ x w, OPR L xs Z 99 156 [.int x, .int w]) ∧ (∀ x, OPR L xs Z 101 162 [.int x]) ∧ (∀ x, OPR L xs Z 102 163 [.int x]) := by
  have h0 := h
  obtain ⟨tp, bs, Q, S, lim, pf, pl, ot, b1, b2, rd, qo, l3, pc, h9, ho, c, m⟩ := h
  obtain ⟨c1, c2, c3, c4, c5, c6, c7, c8, c9⟩ := C_get (L := L) (d := 5) c b2 rd qo l3
  obtain ⟨m1, m2, m3, m4, m5, m6, m7, m8, m9⟩ := M_get (L := L) (d := 5) m b2 rd qo l3 pc h9 ho
  exact ⟨⟨_, Z, Z, c1, m1, h0, rfl⟩, fun x w => ⟨_, Z, Z, c2 x w, m2 x w, h0, rfl⟩, fun x w => ⟨_, Z, Z, c3 x w, m3 x w, h0, rfl⟩, fun x w => ⟨_, Z, Z, c4 x w, m4 x w, h0, rfl⟩, fun x w => ⟨_, Z, Z, c5 x w, m5 x w, h0, rfl⟩, fun x w => ⟨_, Z, Z, c6 x w, m6 x w, h0, rfl⟩, fun x w => ⟨_, Z, Z, c7 x w, m7 x w, h0, rfl⟩, fun x => ⟨_, Z, Z, c8 x, m8 x, h0, rfl⟩, fun x => ⟨_, Z, Z, c9 x, m9 x, h0, rfl⟩⟩
end
/-- in the beginning -/
def Qe : CT := (fun _ => [], fun _ => 0)
def Ale : Nat → List Nat := fun a => if a = 142 ∨ a = 143 ∨ a = 151 then [0] else if a = 168 ∨ a = 169 then List.replicate 300 0 else []
theorem creadE (k : Nat) : (cread []).2.1 k = [] := by
  show (if k = 0 then [] else []) = []
  split <;> rfl
theorem rep0 (n i : Nat) : (List.replicate n 0).getD i 0 = 0 := by
  rw [List.getD, List.getElem?_replicate]
  split <;> rfl
theorem inv0 (xs : Nat → Int32) : INV xs (z0 xs) := by
  have bbE : BB [] := ⟨(fun x hx => by cases hx), Nat.zero_le _⟩
  have lkE : min 300 ((cread []).2.1 1).length = 0 := by rw [creadE]; rfl
  refine ⟨[], [], Qe, none, 300, [], [], [], bbE, bbE, rfl, ⟨⟨bbE, Nat.zero_le _, Nat.zero_le _, Nat.zero_le _⟩, (fun l hl => by cases hl), Nat.zero_le _, Nat.zero_le _, fun _ => ⟨rfl, rfl⟩, fun s hs => by cases hs⟩, Nat.le_refl _, PLC_nil _, Nat.zero_le _, Nat.zero_le _, ?_, ?_⟩
  · refine ⟨5, 91, 29, 115, (fun _ => [], fun _ => 0), Or.inl ⟨rfl, rfl⟩, Or.inl ⟨rfl, rfl⟩, rfl, rfl, ⟨Or.inl rfl, Or.inl rfl, rfl, rfl, fun k _ => by rw [creadE]; rfl, fun k _ => rfl⟩, rfl, rfl, ?_, ?_, rfl, rfl, rfl⟩
    · unfold putM
      refine Prod.ext (funext fun a => ?_) (Prod.ext (funext fun a => funext fun f => ?_) rfl)
      · show [] = if _ then _ else _
        split <;> rfl
      · simp only
        split
        · rename_i e; rw [e.1, e.2]; rfl
        · rfl
    · rw [lkE]
      refine ⟨rfl, rfl, rfl, ⟨rfl, rfl, (fun v hv => by cases hv), fun v hv => by cases hv⟩, by rw [creadE]; rfl, rfl, rfl, rfl, by rw [creadE]; rfl, fun _ => false, rfl, fun q => absurd rfl q⟩
  · have zr : ∀ g : Nat → Bool, (∀ v, g v = false) → (List.range 300).map (fun v => bN (g v)) = List.replicate 300 0 := fun g hg => by
      rw [show (fun v => bN (g v)) = fun _ => 0 from funext fun v => by rw [hg v]; rfl, List.map_const', List.length_range]
    refine ⟨fun a i => (z0 xs).2.2.1 a i, Ale, ?_, rfl, rfl, rfl, ⟨fun a h1 h2 => ?_, rfl, rfl, rfl, rfl, rfl, rfl, rfl, rfl, rfl, rfl, rfl⟩, ⟨rfl, rfl, rfl, rfl, rfl, rfl, rfl, rfl⟩, ⟨fun _ => rfl, fun s hs => by cases hs⟩, rfl, ?_, rfl, rfl, rfl, rfl, rfl⟩
    · funext a i
      unfold AR
      by_cases c : 137 ≤ a ∧ i < (Ale a).length
      · rw [if_pos c]
        have e : (z0 xs).2.2.1 a i = 0 := by
          show (if a = 0 then xs else fun _ => 0) i = 0
          rw [if_neg (by omega)]
        have e2 : (Ale a).getD i 0 = 0 := by
          have c2 := c.2
          unfold Ale at c2 ⊢
          split
          · rename_i w
            rw [if_pos w] at c2
            have : i = 0 := by simpa using c2
            rw [this]; rfl
          · rename_i w
            rw [if_neg w] at c2
            split
            · rename_i w2
              rw [if_pos w2, List.length_replicate] at c2
              exact rep0 300 i
            · rfl
        rw [e, e2]
        rfl
      · rw [if_neg c]
    · show Ale a = K0 a
      unfold Ale K0
      by_cases c : a = 142 ∨ a = 143
      · rw [if_pos c, if_pos (by omega)]
      · rw [if_neg c, if_neg (by omega), if_neg (by omega)]
    · rw [lkE]
      refine ⟨rfl, rfl, rfl, ⟨rfl, fun k w hk => by cases hk⟩, ?_, ?_, fun q => absurd rfl q⟩
      · rw [zr]
        · rfl
        · intro v
          unfold mkA
          rw [decide_eq_false (by omega), Bool.false_and]
      · rw [zr]
        · rfl
        · intro v
          show (_ && false) = false
          rw [Bool.and_false]
