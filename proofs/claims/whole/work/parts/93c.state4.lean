/-! THE WHOLE STATE: query of the reference -/
section
variable {L d : Nat} {z : zS}
theorem m134_a {R : Nat → List Nat} {f : Nat → Int32} {J : Nat → Nat → Int32} {l1 l2 l3 : List Nat} (e2 : l2.length = l1.length) (e3 : l3.length = l1.length) (hl : l1.length ≤ 12) (hf : f 21 = nI l1.length) (s1 : R 175 = l1) (s2 : R 176 = l2) (s3 : R 177 = l3) : ∀ (r k : Nat), k + r = l1.length → xruns (O2 L) (zden L (d + 7)) 134 26 [.ref 136, .int (nI k)] [] (ms z f J (va_up (va_up (va_up R 152 (l1.take k)) 153 (l2.take k)) 154 (l3.take k))) = xruns (O2 L) (zden L (d + 7)) 134 76 [.ref 136, .int (nI l1.length)] [] (ms z f J (va_up (va_up (va_up R 152 l1) 153 l2) 154 l3)) := by
  intro r
  induction r with
  | zero =>
    intro k hk
    have : k = l1.length := by omega
    subst this
    rw [B134_26, M21r, Option.bind_some, hf, iL (by omega) (by omega), if_pos (Nat.le_refl _), List.take_length, List.take_of_length_le (by omega), List.take_of_length_le (by omega)]
  | succ r ih =>
    intro k hk
    have kl : k < l1.length := by omega
    have t1 : (l1.take k).length = k := by rw [List.length_take]; omega
    have t2 : (l2.take k).length = k := by rw [List.length_take]; omega
    have t3 : (l3.take k).length = k := by rw [List.length_take]; omega
    have n1 : ∀ A B C : List Nat, va_up (va_up (va_up R 152 A) 153 B) 154 C 175 = l1 := fun A B C => by rw [vn _ _ (by omega), vn _ _ (by omega), vn _ _ (by omega), s1]
    have n2 : ∀ A B C : List Nat, va_up (va_up (va_up R 152 A) 153 B) 154 C 176 = l2 := fun A B C => by rw [vn _ _ (by omega), vn _ _ (by omega), vn _ _ (by omega), s2]
    have n3 : ∀ A B C : List Nat, va_up (va_up (va_up R 152 A) 153 B) 154 C 177 = l3 := fun A B C => by rw [vn _ _ (by omega), vn _ _ (by omega), vn _ _ (by omega), s3]
    have w1 : ∀ (A B C : List Nat) (x : Nat), A.length = k → (O2 L).2.2.2.2.2.2.1 (ms z f J (va_up (va_up (va_up R 152 A) 153 B) 154 C)) 0 152 (nI k) (nI x) = some (ms z f J (va_up (va_up (va_up R 152 (A ++ [x])) 153 B) 154 C)) := fun A B C x hA => by
      have e : va_up (va_up (va_up R 152 A) 153 B) 154 C 152 = A := by rw [vn _ _ (by omega), vn _ _ (by omega), vs]
      rw [A152 _ (by rw [e]; exact hA) (by omega), e]
      rw [up_comm _ (show (154 : Nat) ≠ 152 by omega), up_comm _ (show (153 : Nat) ≠ 152 by omega), vv]
    have w2 : ∀ (A B C : List Nat) (x : Nat), B.length = k → (O2 L).2.2.2.2.2.2.1 (ms z f J (va_up (va_up (va_up R 152 A) 153 B) 154 C)) 0 153 (nI k) (nI x) = some (ms z f J (va_up (va_up (va_up R 152 A) 153 (B ++ [x])) 154 C)) := fun A B C x hA => by
      have e : va_up (va_up (va_up R 152 A) 153 B) 154 C 153 = B := by rw [vn _ _ (by omega), vs]
      rw [A153 _ (by rw [e]; exact hA) (by omega), e]
      rw [up_comm _ (show (154 : Nat) ≠ 153 by omega), vv]
    have w3 : ∀ (A B C : List Nat) (x : Nat), C.length = k → (O2 L).2.2.2.2.2.2.1 (ms z f J (va_up (va_up (va_up R 152 A) 153 B) 154 C)) 0 154 (nI k) (nI x) = some (ms z f J (va_up (va_up (va_up R 152 A) 153 B) 154 (C ++ [x]))) := fun A B C x hA => by
      rw [A154 _ (by rw [vs]; exact hA) (by omega), vs, vv]
    rw [B134_26, M21r, Option.bind_some, hf, iL (by omega) (by omega), if_neg (by omega), B134_34, J136_22, Option.bind_some, J136_52, Option.bind_some, L175 (by rw [n1]; omega) (by omega), Option.bind_some, n1, w1 _ _ _ _ t1, Option.bind_some, J136_23, Option.bind_some, J136_53, Option.bind_some, L176 (by rw [n2]; omega) (by omega), Option.bind_some, n2, w2 _ _ _ _ t2, Option.bind_some, J136_24, Option.bind_some, J136_54, Option.bind_some, L177 (by rw [n3]; omega) (by omega), Option.bind_some, n3, w3 _ _ _ _ t3, Option.bind_some, nI_add, take_snoc kl, take_snoc (by omega), take_snoc (by omega)]
    exact ih (k + 1) (by omega)
theorem m134_b {R : Nat → List Nat} {f : Nat → Int32} {J : Nat → Nat → Int32} {l1 l2 l3 : List Nat} (e2 : l2.length = l1.length) (e3 : l3.length = l1.length) (hl : l1.length ≤ 80) (hf : f 25 = nI l1.length) (s1 : R 178 = l1) (s2 : R 179 = l2) (s3 : R 180 = l3) : ∀ (r k : Nat), k + r = l1.length → xruns (O2 L) (zden L (d + 7)) 134 86 [.ref 136, .int (nI k)] [] (ms z f J (va_up (va_up (va_up R 155 (l1.take k)) 156 (l2.take k)) 157 (l3.take k))) = xruns (O2 L) (zden L (d + 7)) 134 136 [.ref 136, .int (nI l1.length)] [] (ms z f J (va_up (va_up (va_up R 155 l1) 156 l2) 157 l3)) := by
  intro r
  induction r with
  | zero =>
    intro k hk
    have : k = l1.length := by omega
    subst this
    rw [B134_86, M25r, Option.bind_some, hf, iL (by omega) (by omega), if_pos (Nat.le_refl _), List.take_length, List.take_of_length_le (by omega), List.take_of_length_le (by omega)]
  | succ r ih =>
    intro k hk
    have kl : k < l1.length := by omega
    have t1 : (l1.take k).length = k := by rw [List.length_take]; omega
    have t2 : (l2.take k).length = k := by rw [List.length_take]; omega
    have t3 : (l3.take k).length = k := by rw [List.length_take]; omega
    have n1 : ∀ A B C : List Nat, va_up (va_up (va_up R 155 A) 156 B) 157 C 178 = l1 := fun A B C => by rw [vn _ _ (by omega), vn _ _ (by omega), vn _ _ (by omega), s1]
    have n2 : ∀ A B C : List Nat, va_up (va_up (va_up R 155 A) 156 B) 157 C 179 = l2 := fun A B C => by rw [vn _ _ (by omega), vn _ _ (by omega), vn _ _ (by omega), s2]
    have n3 : ∀ A B C : List Nat, va_up (va_up (va_up R 155 A) 156 B) 157 C 180 = l3 := fun A B C => by rw [vn _ _ (by omega), vn _ _ (by omega), vn _ _ (by omega), s3]
    have w1 : ∀ (A B C : List Nat) (x : Nat), A.length = k → (O2 L).2.2.2.2.2.2.1 (ms z f J (va_up (va_up (va_up R 155 A) 156 B) 157 C)) 0 155 (nI k) (nI x) = some (ms z f J (va_up (va_up (va_up R 155 (A ++ [x])) 156 B) 157 C)) := fun A B C x hA => by
      have e : va_up (va_up (va_up R 155 A) 156 B) 157 C 155 = A := by rw [vn _ _ (by omega), vn _ _ (by omega), vs]
      rw [A155 _ (by rw [e]; exact hA) (by omega), e]
      rw [up_comm _ (show (157 : Nat) ≠ 155 by omega), up_comm _ (show (156 : Nat) ≠ 155 by omega), vv]
    have w2 : ∀ (A B C : List Nat) (x : Nat), B.length = k → (O2 L).2.2.2.2.2.2.1 (ms z f J (va_up (va_up (va_up R 155 A) 156 B) 157 C)) 0 156 (nI k) (nI x) = some (ms z f J (va_up (va_up (va_up R 155 A) 156 (B ++ [x])) 157 C)) := fun A B C x hA => by
      have e : va_up (va_up (va_up R 155 A) 156 B) 157 C 156 = B := by rw [vn _ _ (by omega), vs]
      rw [A156 _ (by rw [e]; exact hA) (by omega), e]
      rw [up_comm _ (show (157 : Nat) ≠ 156 by omega), vv]
    have w3 : ∀ (A B C : List Nat) (x : Nat), C.length = k → (O2 L).2.2.2.2.2.2.1 (ms z f J (va_up (va_up (va_up R 155 A) 156 B) 157 C)) 0 157 (nI k) (nI x) = some (ms z f J (va_up (va_up (va_up R 155 A) 156 B) 157 (C ++ [x]))) := fun A B C x hA => by
      rw [A157 _ (by rw [vs]; exact hA) (by omega), vs, vv]
    rw [B134_86, M25r, Option.bind_some, hf, iL (by omega) (by omega), if_neg (by omega), B134_94, J136_26, Option.bind_some, J136_56, Option.bind_some, L178 (by rw [n1]; omega) (by omega), Option.bind_some, n1, w1 _ _ _ _ t1, Option.bind_some, J136_27, Option.bind_some, J136_57, Option.bind_some, L179 (by rw [n2]; omega) (by omega), Option.bind_some, n2, w2 _ _ _ _ t2, Option.bind_some, J136_28, Option.bind_some, J136_58, Option.bind_some, L180 (by rw [n3]; omega) (by omega), Option.bind_some, n3, w3 _ _ _ _ t3, Option.bind_some, nI_add, take_snoc kl, take_snoc (by omega), take_snoc (by omega)]
    exact ih (k + 1) (by omega)
theorem m134_c {R : Nat → List Nat} {f : Nat → Int32} {J : Nat → Nat → Int32} {l1 l2 l3 : List Nat} (e2 : l2.length = l1.length) (e3 : l3.length = l1.length) (hl : l1.length ≤ 200) (hf : f 30 = nI l1.length) (s1 : R 181 = l1) (s2 : R 182 = l2) (s3 : R 183 = l3) : ∀ (r k : Nat), k + r = l1.length → xruns (O2 L) (zden L (d + 7)) 134 146 [.ref 136, .int (nI k)] [] (ms z f J (va_up (va_up (va_up R 159 (l1.take k)) 160 (l2.take k)) 161 (l3.take k))) = xruns (O2 L) (zden L (d + 7)) 134 196 [.ref 136, .int (nI l1.length)] [] (ms z f J (va_up (va_up (va_up R 159 l1) 160 l2) 161 l3)) := by
  intro r
  induction r with
  | zero =>
    intro k hk
    have : k = l1.length := by omega
    subst this
    rw [B134_146, M30r, Option.bind_some, hf, iL (by omega) (by omega), if_pos (Nat.le_refl _), List.take_length, List.take_of_length_le (by omega), List.take_of_length_le (by omega)]
  | succ r ih =>
    intro k hk
    have kl : k < l1.length := by omega
    have t1 : (l1.take k).length = k := by rw [List.length_take]; omega
    have t2 : (l2.take k).length = k := by rw [List.length_take]; omega
    have t3 : (l3.take k).length = k := by rw [List.length_take]; omega
    have n1 : ∀ A B C : List Nat, va_up (va_up (va_up R 159 A) 160 B) 161 C 181 = l1 := fun A B C => by rw [vn _ _ (by omega), vn _ _ (by omega), vn _ _ (by omega), s1]
    have n2 : ∀ A B C : List Nat, va_up (va_up (va_up R 159 A) 160 B) 161 C 182 = l2 := fun A B C => by rw [vn _ _ (by omega), vn _ _ (by omega), vn _ _ (by omega), s2]
    have n3 : ∀ A B C : List Nat, va_up (va_up (va_up R 159 A) 160 B) 161 C 183 = l3 := fun A B C => by rw [vn _ _ (by omega), vn _ _ (by omega), vn _ _ (by omega), s3]
    have w1 : ∀ (A B C : List Nat) (x : Nat), A.length = k → (O2 L).2.2.2.2.2.2.1 (ms z f J (va_up (va_up (va_up R 159 A) 160 B) 161 C)) 0 159 (nI k) (nI x) = some (ms z f J (va_up (va_up (va_up R 159 (A ++ [x])) 160 B) 161 C)) := fun A B C x hA => by
      have e : va_up (va_up (va_up R 159 A) 160 B) 161 C 159 = A := by rw [vn _ _ (by omega), vn _ _ (by omega), vs]
      rw [A159 _ (by rw [e]; exact hA) (by omega), e]
      rw [up_comm _ (show (161 : Nat) ≠ 159 by omega), up_comm _ (show (160 : Nat) ≠ 159 by omega), vv]
    have w2 : ∀ (A B C : List Nat) (x : Nat), B.length = k → (O2 L).2.2.2.2.2.2.1 (ms z f J (va_up (va_up (va_up R 159 A) 160 B) 161 C)) 0 160 (nI k) (nI x) = some (ms z f J (va_up (va_up (va_up R 159 A) 160 (B ++ [x])) 161 C)) := fun A B C x hA => by
      have e : va_up (va_up (va_up R 159 A) 160 B) 161 C 160 = B := by rw [vn _ _ (by omega), vs]
      rw [A160 _ (by rw [e]; exact hA) (by omega), e]
      rw [up_comm _ (show (161 : Nat) ≠ 160 by omega), vv]
    have w3 : ∀ (A B C : List Nat) (x : Nat), C.length = k → (O2 L).2.2.2.2.2.2.1 (ms z f J (va_up (va_up (va_up R 159 A) 160 B) 161 C)) 0 161 (nI k) (nI x) = some (ms z f J (va_up (va_up (va_up R 159 A) 160 B) 161 (C ++ [x]))) := fun A B C x hA => by
      rw [A161 _ (by rw [vs]; exact hA) (by omega), vs, vv]
    rw [B134_146, M30r, Option.bind_some, hf, iL (by omega) (by omega), if_neg (by omega), B134_154, J136_31, Option.bind_some, J136_60, Option.bind_some, L181 (by rw [n1]; omega) (by omega), Option.bind_some, n1, w1 _ _ _ _ t1, Option.bind_some, J136_32, Option.bind_some, J136_61, Option.bind_some, L182 (by rw [n2]; omega) (by omega), Option.bind_some, n2, w2 _ _ _ _ t2, Option.bind_some, J136_33, Option.bind_some, J136_62, Option.bind_some, L183 (by rw [n3]; omega) (by omega), Option.bind_some, n3, w3 _ _ _ _ t3, Option.bind_some, nI_add, take_snoc kl, take_snoc (by omega), take_snoc (by omega)]
    exact ih (k + 1) (by omega)
theorem m134_d {R : Nat → List Nat} {f : Nat → Int32} {J : Nat → Nat → Int32} {bs : List Nat} (hb : BB bs) (hf : f 1 = nI bs.length) (s1 : R 137 = bs) : ∀ (r k : Nat), k + r = bs.length → xruns (O2 L) (zden L (d + 7)) 134 198 [.ref 136, .int (nI k)] [] (ms z f J (va_up R 158 ((bs.take k).map lo))) = xruns (O2 L) (zden L (d + 7)) 134 227 [.ref 136, .int (nI bs.length)] [] (ms z f J (va_up R 158 (bs.map lo))) := by
  have hb2 := hb.2
  intro r
  induction r with
  | zero =>
    intro k hk
    have : k = bs.length := by omega
    subst this
    rw [B134_198, M1r, Option.bind_some, hf, iL (by omega) (by omega), if_pos (Nat.le_refl _), List.take_length]
  | succ r ih =>
    intro k hk
    have kl : k < bs.length := by omega
    have hc : bs[k]? = some bs[k] := List.getElem?_eq_getElem kl
    have c256 : bs[k] < 256 := hb.1 _ (List.getElem_mem _)
    have t1 : ((bs.take k).map lo).length = k := by rw [List.length_map, List.length_take]; omega
    have ts : (bs.take k).map lo ++ [lo bs[k]] = (bs.take (k + 1)).map lo := by
      rw [List.take_succ, hc, List.map_append]; rfl
    rw [B134_198, M1r, Option.bind_some, hf, iL (by omega) (by omega), if_neg (by omega), B134_206, J136_29, Option.bind_some, J136_0, Option.bind_some, L137s (bs := bs) (by rw [vn _ _ (by omega)]; exact s1) hb hc, Option.bind_some, ← ozs, m111 (fun k q => by cases q; exact c256), Option.bind_some]
    show ((O2 L).2.2.2.2.2.2.1 (ms z f J (va_up R 158 ((bs.take k).map lo))) 0 158 (nI k) (nI (lo bs[k]))).bind _ = _
    rw [A158 _ (by rw [vs]; exact t1) (by omega), Option.bind_some, vs, vv, ts, nI_add]
    exact ih (k + 1) (by omega)
end
section
variable {L d : Nat} {Z : zS} {xs : Nat → Int32} {tp bs : List Nat} {Q : CT} {S : Option Sem} {lim : Nat} {pf pl ot : List Nat}
theorem m_query (h : MI xs (Z.2.1 136) Z.2.2.1 tp bs Q S lim pf pl ot) (ht : BB tp) (hb : BB bs) (hr : (cread bs).1 = none) (qo : QOK Q S) (hn : lim ≤ 300) :
    ∃ Z', SC Z Z' ∧ (∀ p, (qread tp).1 = some p → zden L (d + 8) 134 [.ref 136] Z = some (-1 - nI p, Z') ∧ MI xs (Z'.2.1 136) Z'.2.2.1 [] bs Q S lim [] [] ot) ∧ ((qread tp).1 = none → zden L (d + 8) 134 [.ref 136] Z = some (nI ((qread tp).2.1.1 6).length, Z') ∧ MI xs (Z'.2.1 136) Z'.2.2.1 [] bs (qread tp).2.1 (some (finS (qread tp).2.2.2)) lim [] [] ot) := by
  have ht2 := ht.2
  generalize hF : Z.2.1 136 = F at h
  obtain ⟨J, Al, eZ, j0, h170, h171, h1, h137, hT, hQ, hN, h36, hR, h47, h172⟩ := MI_get hF h
  obtain ⟨f1, J1, Al1, fr1, e1, x1, x2⟩ := m133 (L := L) (d := d) (z := Z) (bs := tp) ht (f := va_up F 43 (nI 0)) (J := J) (Al := Al) (by rw [vn _ _ (by omega)]; exact h1) h137
  have ff : ∀ k, k ≠ 43 → k ∉ FQ → f1 k = F k := fun k h1 h2 => by
    rw [fr1.2.1 k h2, vn _ _ h1]
  have aa : ∀ a, a ∉ AQ → Al1 a = Al a := fun a h => fr1.2.2 a h
  have f43 : f1 43 = nI 0 := by rw [fr1.2.1 43 (by simp), vs]
  have start : zden L (d + 8) 134 [.ref 136] Z = if nI 0 ≤ f1 68 then xruns (O2 L) (zden L (d + 7)) 134 227 [.ref 136, .null] [] (ms Z f1 J1 Al1) else xruns (O2 L) (zden L (d + 7)) 134 16 [.ref 136, .null] [] (ms Z f1 J1 Al1) := by
    conv => lhs; rw [eZ]
    rw [N134 _ ob136, B134_0, M43p, Option.bind_some, e1, Option.bind_some, M68r, Option.bind_some]
  have fin : ∀ (Q' : CT) (S' : Option Sem) (f2 : Nat → Int32) (J2 : Nat → Nat → Int32) (Al2 : Nat → List Nat) (v1 : Value), QOK Q' S' → J2 0 = xs → MTB bs f2 Al2 → MQX Q' f2 Al2 → MNX Q' S' f2 Al2 → f2 36 = nI lim → f2 43 = nI 0 → f2 47 = nI ot.length → Al2 170 = [] → Al2 171 = [] → Al2 172 = ot → ∃ F' J' Al', xruns (O2 L) (zden L (d + 7)) 134 227 [.ref 136, v1] [] (ms Z f2 J2 Al2) = (if nI 0 ≤ f2 68 then some (-1 - f2 68, ms Z F' J' Al') else some (nI (Q'.1 6).length, ms Z F' J' Al')) ∧ MI xs F' (AR J' Al') [] bs Q' S' lim [] [] ot := by
    intro Q' S' f2 J2 Al2 v1 qo' g0 gT gQ gN g36 g43 g47 g170 g171 g172
    obtain ⟨J3, Al3, k1, k2, k3, k4⟩ := ms_forgetL (z := Z) (f := f2) [137] J2 Al2
    have fo : ∀ k, k ≠ 1 → va_up f2 1 (nI 0) k = f2 k := fun k h => vn _ _ h
    obtain ⟨J4, Al4, fr4, e4, t', q', n', r'⟩ := m_work (L := L) (d := d + 1) (Z := Z) (J := J3) (F := va_up f2 1 (nI 0)) (Al := Al3) hb hr qo' hn (gT.fr (fun k hk => fo k (by simp at hk; omega)) (fun a a1 a2 => k4 a (by simp; omega))) (gQ.fr (fo 21 (by omega)) (fun a a1 a2 => k4 a (by simp; omega))) (gN.fr (fo 30 (by omega)) (fun a a1 a2 => k4 a (by simp; omega))) (by rw [fo 36 (by omega)]; exact g36)
    refine ⟨va_up f2 1 (nI 0), J4, Al4, ?_, J4, Al4, rfl, by rw [fr4.1, k2, g0], vs _ _ _, by rw [fr4.2.2 137 (by simp)]; exact k3 137 (by simp), t', q', n', by rw [fo 36 (by omega)]; exact g36, r', by rw [fo 43 (by omega)]; exact g43, by rw [fr4.2.2 170 (by simp), k4 170 (by simp)]; exact g170, by rw [fr4.2.2 171 (by simp), k4 171 (by simp)]; exact g171, by rw [fo 47 (by omega)]; exact g47, by rw [fr4.2.2 172 (by simp), k4 172 (by simp)]; exact g172⟩
    rw [k1, B134_227, M1p, Option.bind_some, e4, Option.bind_some, M68r, Option.bind_some, fo 68 (by omega)]
    by_cases c : nI 0 ≤ f2 68
    · rw [if_pos c, if_pos c, B134_250, M68r, Option.bind_some, B134_256, fo 68 (by omega)]
    · rw [if_neg c, if_neg c, B134_243, M21r, Option.bind_some, B134_256, fo 21 (by omega), gQ.1]
  cases hc : (qread tp).1 with
  | some p =>
    obtain ⟨f68, pl1⟩ := x1 p hc
    have c0 : nI 0 ≤ nI p := nI_le (Nat.zero_le _) (by omega)
    obtain ⟨F', J', Al', e, mi⟩ := fin Q S f1 J1 Al1 .null qo (by rw [fr1.1, j0]) (hT.fr (fun k hk => ff k (by simp at hk; omega) (by simp at hk ⊢; omega)) (fun a a1 a2 => aa a (by simp; omega))) (hQ.fr (ff 21 (by omega) (by simp)) (fun a a1 a2 => aa a (by simp; omega))) (hN.fr (ff 30 (by omega) (by simp)) (fun a a1 a2 => aa a (by simp; omega))) (by rw [ff 36 (by omega) (by simp)]; exact h36) f43 (by rw [ff 47 (by omega) (by simp)]; exact h47) (by rw [aa 170 (by simp)]; exact h170) (by rw [aa 171 (by simp)]; exact h171) (by rw [aa 172 (by simp)]; exact h172)
    refine ⟨ms Z F' J' Al', SC_ms Z _ _ _, fun p' hp => ?_, fun q => by cases q⟩
    cases hp
    refine ⟨?_, by rw [ms_f]; exact mi⟩
    rw [start, f68, if_pos c0, e, f68, if_pos c0]
  | none =>
    obtain ⟨qo', q0, q6, q5, q2, q3⟩ := qry_ok ht hc
    obtain ⟨rq, g51, g175, g176, g177, K, A, B, dT, mt, g59, g181, g182, g183, kl⟩ := x2 hc
    obtain ⟨r1, r137, r67, r55, r178, r179, r180, r68⟩ := rq
    obtain ⟨TS, t1, t2, t3, t4, t5, t6, t7⟩ := mt
    have n12 : ((qread tp).2.1.1 6).length ≤ 12 := qo'.2.2.1
    have n72 : ((qread tp).2.1.1 1).length ≤ 72 := qo'.1.2.1
    obtain ⟨J2, Al2, k1, k2, k3, k4⟩ := ms_forgetL (z := Z) (f := f1) [152, 153, 154, 155, 156, 157, 158, 159, 160, 161] J1 Al1
    -- the leaves
    have eA := m134_a (L := L) (d := d) (z := Z) (R := Al2) (f := va_up f1 21 (nI ((qread tp).2.1.1 4).length)) (J := J2) (l1 := (qread tp).2.1.1 4) (l2 := (qread tp).2.1.1 5) (l3 := (qread tp).2.1.1 6) q5 q6 (by omega) (vs _ _ _) (by rw [k4 175 (by simp)]; exact g175) (by rw [k4 176 (by simp)]; exact g176) (by rw [k4 177 (by simp)]; exact g177) ((qread tp).2.1.1 4).length 0 (by omega)
    have z3 : ∀ a b c : Nat, Al2 a = [] → Al2 b = [] → Al2 c = [] → ∀ l1 l2 l3 : List Nat, va_up (va_up (va_up Al2 a (l1.take 0)) b (l2.take 0)) c (l3.take 0) = Al2 := fun a b c h1 h2 h3 l1 l2 l3 => by
      rw [List.take_zero, List.take_zero, List.take_zero, ← h1, vi, h1, ← h2, vi, h2, ← h3, vi]
    rw [z3 152 153 154 (k3 152 (by simp)) (k3 153 (by simp)) (k3 154 (by simp))] at eA
    generalize hA3 : va_up (va_up (va_up Al2 152 ((qread tp).2.1.1 4)) 153 ((qread tp).2.1.1 5)) 154 ((qread tp).2.1.1 6) = Al3 at eA
    have o3 : ∀ a, a ≠ 152 → a ≠ 153 → a ≠ 154 → Al3 a = Al2 a := fun a h1 h2 h3 => by rw [← hA3, vn _ _ h3, vn _ _ h2, vn _ _ h1]
    have z3' : ∀ (R : Nat → List Nat) (a b c : Nat), R a = [] → R b = [] → R c = [] → ∀ l1 l2 l3 : List Nat, va_up (va_up (va_up R a (l1.take 0)) b (l2.take 0)) c (l3.take 0) = R := fun R a b c h1 h2 h3 l1 l2 l3 => by
      rw [List.take_zero, List.take_zero, List.take_zero, ← h1, vi, h1, ← h2, vi, h2, ← h3, vi]
    -- the terms
    have eB := m134_b (L := L) (d := d) (z := Z) (R := Al3) (f := va_up (va_up f1 21 (nI ((qread tp).2.1.1 4).length)) 25 (nI ((qread tp).2.1.1 1).length)) (J := J2) (l1 := (qread tp).2.1.1 1) (l2 := (qread tp).2.1.1 2) (l3 := (qread tp).2.1.1 3) q2 q3 (by omega) (vs _ _ _) (by rw [o3 178 (by omega) (by omega) (by omega), k4 178 (by simp)]; exact r178) (by rw [o3 179 (by omega) (by omega) (by omega), k4 179 (by simp)]; exact r179) (by rw [o3 180 (by omega) (by omega) (by omega), k4 180 (by simp)]; exact r180) ((qread tp).2.1.1 1).length 0 (by omega)
    rw [z3' Al3 155 156 157 (by rw [o3 155 (by omega) (by omega) (by omega)]; exact k3 155 (by simp)) (by rw [o3 156 (by omega) (by omega) (by omega)]; exact k3 156 (by simp)) (by rw [o3 157 (by omega) (by omega) (by omega)]; exact k3 157 (by simp))] at eB
    generalize hA4 : va_up (va_up (va_up Al3 155 ((qread tp).2.1.1 1)) 156 ((qread tp).2.1.1 2)) 157 ((qread tp).2.1.1 3) = Al4 at eB
    have o4 : ∀ a, a ≠ 155 → a ≠ 156 → a ≠ 157 → Al4 a = Al3 a := fun a h1 h2 h3 => by rw [← hA4, vn _ _ h3, vn _ _ h2, vn _ _ h1]
    have o43 : ∀ a, 158 ≤ a → Al4 a = Al2 a := fun a h => by rw [o4 a (by omega) (by omega) (by omega), o3 a (by omega) (by omega) (by omega)]
    -- the nodes
    have q64 : ((qread tp).2.1.1 4).length ≤ 12 := by omega
    have eC := m134_c (L := L) (d := d) (z := Z) (R := Al4) (f := va_up (va_up (va_up f1 21 (nI ((qread tp).2.1.1 4).length)) 25 (nI ((qread tp).2.1.1 1).length)) 30 (nI K.length)) (J := J2) (l1 := K) (l2 := A) (l3 := B) t2 t3 (by omega) (vs _ _ _) (by rw [o43 181 (by omega), k4 181 (by simp)]; exact g181) (by rw [o43 182 (by omega), k4 182 (by simp)]; exact g182) (by rw [o43 183 (by omega), k4 183 (by simp)]; exact g183) K.length 0 (by omega)
    rw [z3' Al4 159 160 161 (by rw [o43 159 (by omega)]; exact k3 159 (by simp)) (by rw [o43 160 (by omega)]; exact k3 160 (by simp)) (by rw [o43 161 (by omega)]; exact k3 161 (by simp))] at eC
    generalize hA5 : va_up (va_up (va_up Al4 159 K) 160 A) 161 B = Al5 at eC
    have o5 : ∀ a, a ≠ 159 → a ≠ 160 → a ≠ 161 → Al5 a = Al4 a := fun a h1 h2 h3 => by rw [← hA5, vn _ _ h3, vn _ _ h2, vn _ _ h1]
    have s158 : Al5 158 = [] := by rw [o5 158 (by omega) (by omega) (by omega), o43 158 (by omega)]; exact k3 158 (by simp)
    have s137 : Al5 137 = tp := by rw [o5 137 (by omega) (by omega) (by omega), o4 137 (by omega) (by omega) (by omega), o3 137 (by omega) (by omega) (by omega), k4 137 (by simp)]; exact r137
    generalize hf3 : va_up (va_up (va_up f1 21 (nI ((qread tp).2.1.1 4).length)) 25 (nI ((qread tp).2.1.1 1).length)) 30 (nI K.length) = f3 at eC
    have fo : ∀ k, k ≠ 21 → k ≠ 25 → k ≠ 30 → f3 k = f1 k := fun k h1 h2 h3 => by rw [← hf3, vn _ _ h3, vn _ _ h2, vn _ _ h1]
    have f30 : f3 30 = nI K.length := by rw [← hf3, vs]
    have f21 : f3 21 = nI ((qread tp).2.1.1 4).length := by rw [← hf3, vn _ _ (by omega), vn _ _ (by omega), vs]
    have eD := m134_d (L := L) (d := d) (z := Z) (R := Al5) (f := f3) (J := J2) ht (by rw [fo 1 (by omega) (by omega) (by omega)]; exact r1) s137 tp.length 0 (by omega)
    have z5 : va_up Al5 158 ((tp.take 0).map lo) = Al5 := by rw [List.take_zero, List.map_nil, ← s158, vi]
    rw [z5] at eD
    generalize hA6 : va_up Al5 158 (tp.map lo) = Al6 at eD
    have o6 : ∀ a, a < 152 ∨ 161 < a → Al6 a = Al1 a := fun a ha => by
      rw [← hA6, vn _ _ (by omega), o5 a (by omega) (by omega) (by omega), o4 a (by omega) (by omega) (by omega), o3 a (by omega) (by omega) (by omega), k4 a (by simp; omega)]
    have v159 : Al6 159 = K := by rw [← hA6, vn _ _ (by omega), ← hA5, vn _ _ (by omega), vn _ _ (by omega), vs]
    have v160 : Al6 160 = A := by rw [← hA6, vn _ _ (by omega), ← hA5, vn _ _ (by omega), vs]
    have v161 : Al6 161 = B := by rw [← hA6, vn _ _ (by omega), ← hA5, vs]
    have gQ : MQX (qread tp).2.1 f3 Al6 := by
      refine ⟨by rw [f21, q6], ?_, ?_, ?_, ?_, ?_, ?_, by rw [← hA6, vs, q0]⟩
      · rw [← hA6, vn _ _ (by omega), o5 152 (by omega) (by omega) (by omega), o4 152 (by omega) (by omega) (by omega), ← hA3, vn _ _ (by omega), vn _ _ (by omega), vs]
      · rw [← hA6, vn _ _ (by omega), o5 153 (by omega) (by omega) (by omega), o4 153 (by omega) (by omega) (by omega), ← hA3, vn _ _ (by omega), vs]
      · rw [← hA6, vn _ _ (by omega), o5 154 (by omega) (by omega) (by omega), o4 154 (by omega) (by omega) (by omega), ← hA3, vs]
      · rw [← hA6, vn _ _ (by omega), o5 155 (by omega) (by omega) (by omega), ← hA4, vn _ _ (by omega), vn _ _ (by omega), vs]
      · rw [← hA6, vn _ _ (by omega), o5 156 (by omega) (by omega) (by omega), ← hA4, vn _ _ (by omega), vs]
      · rw [← hA6, vn _ _ (by omega), o5 157 (by omega) (by omega) (by omega), ← hA4, vs]
    have gN : MNX (qread tp).2.1 (some (finS (qread tp).2.2.2)) f3 Al6 := by
      refine ⟨(fun q => by cases q), fun s hs => ?_⟩
      cases hs
      have l1 : dT.length = 1 := by
        have := congrArg List.length t6
        simpa using this
      match dT, l1, t5, t6, t7 with
      | [u], _, t5, t6, t7 =>
        have u1 := t7 u [] rfl
        simp only [List.map_cons, List.map_nil, List.cons.injEq, and_true] at t6
        refine ⟨TS, by rw [f30, v159], by rw [v159]; omega, by rw [v159]; omega, by rw [v159]; exact t1, by rw [v159, v160]; exact t2, by rw [v159, v161]; exact t3, by rw [v159, v160, v161, q6]; exact t4, ?_⟩
        rw [v159, show K.length - 1 = u by omega]
        exact t6
    obtain ⟨F', J', Al', e, mi⟩ := fin (qread tp).2.1 (some (finS (qread tp).2.2.2)) f3 J2 Al6 (.int (nI tp.length)) qo' (by rw [k2, fr1.1, j0]) (hT.fr (fun k hk => by rw [fo k (by simp at hk; omega) (by simp at hk; omega) (by simp at hk; omega)]; exact ff k (by simp at hk; omega) (by simp at hk ⊢; omega)) (fun a a1 a2 => by rw [o6 a (by omega)]; exact aa a (by simp; omega))) gQ gN (by rw [fo 36 (by omega) (by omega) (by omega), ff 36 (by omega) (by simp)]; exact h36) (by rw [fo 43 (by omega) (by omega) (by omega)]; exact f43) (by rw [fo 47 (by omega) (by omega) (by omega), ff 47 (by omega) (by simp)]; exact h47) (by rw [o6 170 (by omega), aa 170 (by simp)]; exact h170) (by rw [o6 171 (by omega), aa 171 (by simp)]; exact h171) (by rw [o6 172 (by omega), aa 172 (by simp)]; exact h172)
    refine ⟨ms Z F' J' Al', SC_ms Z _ _ _, (fun p q => by cases q), fun _ => ⟨?_, by rw [ms_f]; exact mi⟩⟩
    have f68 : f3 68 = -1 := by rw [fo 68 (by omega) (by omega) (by omega)]; exact r68
    rw [start, r68, if_neg (by decide), k1, B134_16, M51r, Option.bind_some, g51, M21p, Option.bind_some, eA, B134_76, M55r, Option.bind_some, vn _ _ (by omega), r55, M25p, Option.bind_some, eB, B134_136, M59r, Option.bind_some, vn _ _ (by omega), vn _ _ (by omega), g59, M30p, Option.bind_some, hf3, eC, B134_196, eD, e, f68, if_neg (by decide)]
end
