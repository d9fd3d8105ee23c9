/-! PRINT: the reference, print -/
def outZ (bs : List Nat) (Q : CT) (S : Option Sem) (lim : Nat) (cf cl : List Nat) (x : Int32) : List Nat := if x = nI 0 then prtP bs (cread bs).2 (kread bs) (litZ (kread bs) (pfZ bs Q S lim) (plZ bs Q S lim)) cf cl cf.length else putO bs (litZ (kread bs) (pfZ bs Q S lim) (plZ bs Q S lim)) 0 bs.length
section
variable {L d : Nat} {z : zS} {bs : List Nat} {Q : CT} {S : Option Sem} {lim : Nat} {F : Nat → Int32} {J : Nat → Nat → Int32} {R : Nat → List Nat} {T' : CT}
theorem outZ_len {cf cl : List Nat} (hb : BB bs) (hr : (cread bs).1 = none) (pi : PI bs bs.length T' (kread bs)) (pc : PLC ((cread bs).2.1 8).length cf cl) (h9 : cf.length ≤ 9) (x : Int32) : (outZ bs Q S lim cf cl x).length ≤ 4539 := by
  have tx := txr hb hr
  have len := tx.len
  unfold outZ
  split
  · have h := prtP_len tx pi (litZ (kread bs) (pfZ bs Q S lim) (plZ bs Q S lim)) pc cf.length (Nat.le_refl _)
    by_cases c : cf.length = 0
    · rw [if_pos c] at h; omega
    · rw [if_neg c] at h
      have q := pc.2 (cf.length - 1) (by omega)
      have := (frm_eto tx pi q.2.1).2.2.1
      omega
  · have := (putO_len pi (litZ (kread bs) (pfZ bs Q S lim) (plZ bs Q S lim)) (Nat.zero_le bs.length) (Nat.le_refl _)).1
    omega
theorem m161 (px : PX bs Q S lim F R T') {cf cl : List Nat} (h43 : F 43 = nI cf.length) (h170 : R 170 = cf) (h171 : R 171 = cl) (pc : PLC ((cread bs).2.1 8).length cf cl) (h9 : cf.length ≤ 9) (x : Int32) : ∃ F' J' R', FrM [47] [172, 189] F J R F' J' R' ∧ F' 47 = nI (outZ bs Q S lim cf cl x).length ∧ R' 172 = outZ bs Q S lim cf cl x ∧ zden L (d + 4) 161 [.ref 136, .int x] (ms z F J R) = some (nI (outZ bs Q S lim cf cl x).length, ms z F' J' R') := by
  have tx := txr px.gx.bb px.gx.rd
  have to := txt_ok px.gx.bb px.gx.rd
  have len := tx.len
  have k139 := tx.k139
  have W300 := tx.W300
  have l8 := tx.l8
  have ll := pc.1
  obtain ⟨J1, R1, a1, a2, a3, a4⟩ := ms_forgetL (z := z) (f := va_up F 47 (nI 0)) [172] J R
  have px1 : PX bs Q S lim F R1 T' := ⟨px.gx.fr (fun _ _ => rfl) (fun a b1 b2 => a4 a (by simp; omega)), px.pi⟩
  have e0 : ms z (va_up F 47 (nI 0)) J R = MO z F J1 R1 (R1 189) [] := by
    rw [a1]
    unfold MO
    congr 1
    funext i
    unfold Rl va_up
    by_cases i1 : i = 172
    · rw [if_pos i1, i1, a3 172 (by simp)]
    · rw [if_neg i1]
      by_cases i2 : i = 189
      · rw [if_pos i2, i2]
      · rw [if_neg i2]
  -- what comes of it
  have fin : ∀ (l out : List Nat), FrM [47] [172, 189] F J R (va_up F 47 (nI out.length)) J1 (Rl R1 l out) := fun l out => ⟨a2, fun k hk => vn _ _ (by simpa using hk), fun a ha => by
    simp at ha
    rw [Rl_o (by omega) (by omega), a4 a (by simp; omega)]⟩
  have r47 : ∀ l o, (O2 L).1 (MO z F J1 R1 l o) 136 8 47 = some (nI o.length) := fun l o => by unfold MO; rw [M47r, vs]
  by_cases c : x = nI 0
  · have eo : outZ bs Q S lim cf cl x = prtP bs (cread bs).2 (kread bs) (litZ (kread bs) (pfZ bs Q S lim) (plZ bs Q S lim)) cf cl cf.length := if_pos c
    rw [eo]
    generalize hlit : litZ (kread bs) (pfZ bs Q S lim) (plZ bs Q S lim) = lt
    have r43 : ∀ l o, (O2 L).1 (MO z F J1 R1 l o) 136 8 43 = some (nI cf.length) := fun l o => by unfold MO; rw [M43r, vn _ _ (by omega), h43]
    have loop : ∀ (r k : Nat) (l : List Nat) (v3 : Value), k + r = cf.length → ∃ l', xruns (O2 L) (zden L (d + 3)) 161 25 [.ref 136, .int x, .int (nI k), v3] [] (MO z F J1 R1 l (prtP bs (cread bs).2 (kread bs) lt cf cl k)) = some (nI (prtP bs (cread bs).2 (kread bs) lt cf cl cf.length).length, MO z F J1 R1 l' (prtP bs (cread bs).2 (kread bs) lt cf cl cf.length)) := by
      intro r
      induction r with
      | zero =>
        intro k l v3 hk
        have : k = cf.length := by omega
        subst this
        exact ⟨l, by rw [B161_25, r43, Option.bind_some, if_pos (nI_le (Nat.le_refl _) (by omega)), B161_97, r47, Option.bind_some]⟩
      | succ r ih =>
        intro k l v3 hk
        have q := pc.2 k (by omega)
        have fe := frm_eto tx px.pi (show cl.getD k 0 < ((cread bs).2.1 8).length from q.2.1)
        have fl := frm_le tx px.pi q.1 q.2.1
        have pl0 := prtP_len tx px.pi lt pc k (by omega)
        have w8 := tx.w8 (cf.getD k 0) (by omega)
        obtain ⟨j, j1, j2, j3, j4, j5⟩ := sent_at tx px.pi (show cl.getD k 0 < ((cread bs).2.1 8).length from q.2.1)
        obtain ⟨i, i1, i2, i3, i4, i5⟩ := sent_at tx px.pi (show cf.getD k 0 < ((cread bs).2.1 8).length by omega)
        have cap0 : (prtP bs (cread bs).2 (kread bs) lt cf cl k).length ≤ 171 * k + 3 * frm (cread bs).2 (kread bs) (cf.getD k 0) := by
          by_cases c0 : k = 0
          · rw [if_pos c0] at pl0; omega
          · rw [if_neg c0] at pl0
            have q' := pc.2 (k - 1) (by omega)
            have l1 := q'.2.2 (by omega)
            rw [show k - 1 + 1 = k by omega] at l1
            have ef := eto_frm tx px.pi l1 (by omega)
            omega
        have dots : ∃ x3, xruns (O2 L) (zden L (d + 3)) 161 35 [.ref 136, .int x, .int (nI k), .int (nI 0)] [] (MO z F J1 R1 l (prtP bs (cread bs).2 (kread bs) lt cf cl k)) = xruns (O2 L) (zden L (d + 3)) 161 56 [.ref 136, .int x, .int (nI k), .int x3] [] (MO z F J1 R1 l (prtP bs (cread bs).2 (kread bs) lt cf cl k ++ (if k = 0 then [] else [46, 46, 46]))) := by
          by_cases c0 : k = 0
          · refine ⟨nI 0, ?_⟩
            rw [B161_35, iL (by omega) (by omega), if_neg (by omega), B161_40, iL (by omega) (by omega), if_pos (by omega), if_pos c0, List.append_nil]
          · refine ⟨nI 3, ?_⟩
            have one : ∀ (y : Nat) (o : List Nat), y < 3 → o.length < 6000 → xruns (O2 L) (zden L (d + 3)) 161 35 [.ref 136, .int x, .int (nI k), .int (nI y)] [] (MO z F J1 R1 l o) = xruns (O2 L) (zden L (d + 3)) 161 35 [.ref 136, .int x, .int (nI k), .int (nI (y + 1))] [] (MO z F J1 R1 l (o ++ [46])) := by
              intro y o hy ho
              rw [B161_35, iL (by omega) (by omega), if_neg (by omega), B161_40, iL (by omega) (by omega), if_neg (by omega), B161_44, m157 ho, Option.bind_some, nI_add]
            rw [one 0 _ (by omega) (by omega), one 1 _ (by omega) (by rw [List.length_append]; simp only [List.length_cons, List.length_nil]; omega), one 2 _ (by omega) (by rw [List.length_append, List.length_append]; simp only [List.length_cons, List.length_nil]; omega), B161_35, iL (by omega) (by omega), if_pos (by omega), if_neg c0, List.append_assoc, List.append_assoc]
            rfl
        obtain ⟨x3, dots⟩ := dots
        have dl : (if k = 0 then ([] : List Nat) else [46, 46, 46]).length ≤ 3 := by split <;> simp
        have e160 := m160 (L := L) (d := d) (z := z) (J := J1) (l := l) (o := prtP bs (cread bs).2 (kread bs) lt cf cl k ++ (if k = 0 then [] else [46, 46, 46])) px1 (show frm (cread bs).2 (kread bs) (cf.getD k 0) ≤ eto (cread bs).2 (cl.getD k 0) by omega) fe.2.2.1 (Or.inr ⟨_, i4, rfl⟩) (Or.inr ⟨j, j1, j2⟩) (by rw [List.length_append]; omega)
        rw [hlit] at e160
        obtain ⟨l2, e160⟩ := e160
        obtain ⟨l', i0⟩ := ih (k + 1) l2 (.int x3) (by omega)
        refine ⟨l', ?_⟩
        have ep : prtP bs (cread bs).2 (kread bs) lt cf cl (k + 1) = prtP bs (cread bs).2 (kread bs) lt cf cl k ++ (if k = 0 then [] else [46, 46, 46]) ++ putO bs lt (frm (cread bs).2 (kread bs) (cf.getD k 0)) (eto (cread bs).2 (cl.getD k 0)) := by
          rw [List.append_assoc]; rfl
        rw [ep] at i0
        have g' := px1.g' l (prtP bs (cread bs).2 (kread bs) lt cf cl k ++ (if k = 0 then [] else [46, 46, 46]))
        have h170' : R1 170 = cf := by rw [a4 170 (by simp)]; exact h170
        have h171' : R1 171 = cl := by rw [a4 171 (by simp)]; exact h171
        have c170 : ∀ o, Rl R1 l o 170 = cf := fun o => by rw [Rl_o (by omega) (by omega)]; exact h170'
        have c171 : ∀ o, Rl R1 l o 171 = cl := fun o => by rw [Rl_o (by omega) (by omega)]; exact h171'
        have c147 : ∀ o, Rl R1 l o 147 = wF (kread bs) := fun o => by rw [Rl_o (by omega) (by omega)]; exact px1.gx.mt.2.2.2.2.2.2.2.1
        obtain ⟨z1, z2, z3⟩ := zf_at g' (show cf.getD k 0 < ((cread bs).2.1 8).length by omega)
        have e148 := m148 (L := L) (d := d + 2) (z := z) (J := J1) g' (show cl.getD k 0 < ((cread bs).2.1 8).length from q.2.1)
        have e148 : zden L (d + 3) 148 [.ref 136, .int (nI (cl.getD k 0))] (MO z F J1 R1 l (prtP bs (cread bs).2 (kread bs) lt cf cl k ++ (if k = 0 then [] else [46, 46, 46]))) = some (nI (eto (cread bs).2 (cl.getD k 0)), MO z F J1 R1 l (prtP bs (cread bs).2 (kread bs) lt cf cl k ++ (if k = 0 then [] else [46, 46, 46]))) := e148
        have e1 : (O2 L).2.2.2.2.2.1 (MO z F J1 R1 l (prtP bs (cread bs).2 (kread bs) lt cf cl k ++ (if k = 0 then [] else [46, 46, 46]))) 0 170 (nI k) = some (nI (cf.getD k 0)) := by
          unfold MO
          rw [L170 (by rw [c170]; omega) (by omega), c170]
        have e2 : (O2 L).2.2.2.2.2.1 (MO z F J1 R1 l (prtP bs (cread bs).2 (kread bs) lt cf cl k ++ (if k = 0 then [] else [46, 46, 46]))) 0 171 (nI k) = some (nI (cl.getD k 0)) := by
          unfold MO
          rw [L171 (by rw [c171]; omega) (by omega), c171]
        have e3 : (O2 L).2.2.2.2.2.1 (MO z F J1 R1 l (prtP bs (cread bs).2 (kread bs) lt cf cl k ++ (if k = 0 then [] else [46, 46, 46]))) 0 151 (nI (cf.getD k 0)) = some (nI (((cread bs).2.1 8).getD (cf.getD k 0) 0)) := by
          unfold MO
          rw [L151 (by omega) (by omega), z2]
        have e4 : (O2 L).2.2.2.2.2.1 (MO z F J1 R1 l (prtP bs (cread bs).2 (kread bs) lt cf cl k ++ (if k = 0 then [] else [46, 46, 46]))) 0 147 (nI (((cread bs).2.1 8).getD (cf.getD k 0) 0)) = some (nI ((wF (kread bs)).getD (((cread bs).2.1 8).getD (cf.getD k 0) 0) 0)) := by
          unfold MO
          rw [L147 (by rw [c147, tx.kF]; exact w8) (by omega), c147]
        rw [B161_25, r43, Option.bind_some, iL (by omega) (by omega), if_neg (by omega), B161_33, dots, B161_56, J136_6, Option.bind_some, J136_15, Option.bind_some, J136_20, Option.bind_some, J136_44, Option.bind_some, e1, Option.bind_some, e3, Option.bind_some, e4, Option.bind_some, rAt px1 i4, Option.bind_some, J136_45, Option.bind_some, e2, Option.bind_some, e148, Option.bind_some]
        show ((zden L (d + 3) 160 [.ref 136, .int (nI (frm (cread bs).2 (kread bs) (cf.getD k 0))), .int (nI (eto (cread bs).2 (cl.getD k 0)))] (MO z F J1 R1 l (prtP bs (cread bs).2 (kread bs) lt cf cl k ++ (if k = 0 then [] else [46, 46, 46])))).bind _) = _
        rw [e160, Option.bind_some, nI_add]
        exact i0
    obtain ⟨l', h⟩ := loop cf.length 0 (R1 189) .null (by omega)
    refine ⟨_, J1, Rl R1 l' (prtP bs (cread bs).2 (kread bs) lt cf cl cf.length), fin l' _, vs _ _ _, Rl_172, ?_⟩
    rw [N161 _ _ ob136, B161_0, M47p, Option.bind_some, if_pos c, B161_23, e0]
    exact h
  · have eo : outZ bs Q S lim cf cl x = putO bs (litZ (kread bs) (pfZ bs Q S lim) (plZ bs Q S lim)) 0 bs.length := if_neg c
    rw [eo]
    obtain ⟨l', e160⟩ := m160 (L := L) (d := d) (z := z) (J := J1) (l := R1 189) (o := []) px1 (Nat.zero_le bs.length) (Nat.le_refl _) (Or.inl rfl) (Or.inl rfl) (by show 0 + 168 + 3 * (bs.length - 0) ≤ 4539; omega)
    rw [List.nil_append] at e160
    refine ⟨_, J1, Rl R1 l' (putO bs (litZ (kread bs) (pfZ bs Q S lim) (plZ bs Q S lim)) 0 bs.length), fin l' _, vs _ _ _, Rl_172, ?_⟩
    have r3 : ∀ l o, (O2 L).1 (MO z F J1 R1 l o) 136 8 3 = some (nI bs.length) := fun l o => by unfold MO; rw [M3r, vn _ _ (by omega), px.gx.mt.2.1]
    rw [N161 _ _ ob136, B161_0, M47p, Option.bind_some, if_neg c, B161_9, e0, r3, Option.bind_some, e160, Option.bind_some, r47, Option.bind_some]
    rfl
end
