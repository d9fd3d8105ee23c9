/-! the methods of Row, at level 1, do what level 2 says -/
def zSimC (L : Nat) (h : xH) (z : zS) (own cap : Nat → Nat) : Prop :=
  (∀ a, zrow a = true → zRow h a (own a) (cap a) (z.1 a)) ∧
  (∀ a b, zrow a = true → zrow b = true → own a = own b → a = b) ∧
  (∀ a, zrow a = true → (lkd (own a)).1 = 0 ∧ own a ≠ 0) ∧
  (∀ a c, zob a c = true → h.1 a = some (.inr (c, zmk z a))) ∧
  (∀ a t, zar a t = true → h.1 a = some (.inl (t, zln a, z.2.2.1 a))) ∧
  h.1 0 = some (.inl (2, L, z.2.2.1 0)) ∧
  ((∀ a, h.1 a ≠ none → a < h.2.1) ∧ 189 < h.2.1 ∧ h.2.1 ≤ 190 + (zRL.map cap).sum ∧ h.2.2 ≤ 25279 + (zRL.map (fun a => zal (cap a) (zmo a))).sum)
theorem zSim_iff {L : Nat} {h : xH} {z : zS} : zSim L h z ↔ ∃ own cap, zSimC L h z own cap := Iff.rfl
theorem zC_row {L : Nat} {h h' : xH} {z : zS} {own cap : Nat → Nat} {a : Nat} {xs : List Int32} (hS : zSimC L h z own cap) (ha : zrow a = true) (e2 : h'.2 = h.2) (ho : ∀ b, b ≠ a → b ≠ own a → h'.1 b = h.1 b) (hd : ∀ b, h'.1 b ≠ none → h.1 b ≠ none) (hr : zRow h' a (own a) (cap a) xs) : zSimC L h' (zrs z a xs) own cap := by
  obtain ⟨s1, s2, s3, s4, s5, s6, s7, s8, s9, s10⟩ := hS
  have k1 := zrow_k ha
  have k2 := (s3 a ha)
  have vis : ∀ b, (lkd b).1 ≠ 0 → (lkd b).1 ≠ 2 → h'.1 b = h.1 b := fun b b1 b2 => ho b (fun q => b2 (by rw [q]; exact k1)) (fun q => b1 (by rw [q]; exact k2.1))
  refine ⟨fun b hb => ?_, s2, s3, fun b c hb => ?_, fun b t hb => ?_, ?_, fun b hb => by rw [e2]; exact s7 b (hd b hb), by rw [e2]; exact s8, by rw [e2]; exact s9, by rw [e2]; exact s10⟩
  · by_cases hba : b = a
    · subst hba
      show zRow h' b (own b) (cap b) (va_up z.1 b xs b)
      rw [va_up_self]
      exact hr
    · show zRow h' b (own b) (cap b) (va_up z.1 a xs b)
      rw [va_up_ne _ _ hba]
      refine zRow_kept (s1 b hb) (ho b hba (fun q => ?_)) (ho _ (fun q => ?_) (fun q => hba (s2 b a hb ha q)))
      · have := (s3 a ha).1; rw [← q, zrow_k hb] at this; cases this
      · have := (s3 b hb).1; rw [q, k1] at this; cases this
  · rw [vis b (by rw [(zob_k hb).1]; decide) (by rw [(zob_k hb).1]; decide), s4 b c hb]
    exact congrArg (fun q => some (Sum.inr (c, q))) (zmk_same (z := z) (z' := zrs z a xs) (fun g => rfl) (fun g => rfl)).symm
  · rw [vis b (by rw [(zar_k hb).1]; decide) (by rw [(zar_k hb).1]; decide), s5 b t hb]
    rfl
  · rw [ho 0 (fun q => by rw [← q, lkd_0] at k1; cases k1) (fun q => k2.2 q.symm), s6]
    rfl
theorem zrs_self (z : zS) (a : Nat) : zrs z a (z.1 a) = z := by
  have : va_up z.1 a (z.1 a) = z.1 := by
    funext b
    by_cases hb : b = a
    · rw [hb, va_up_self]
    · rw [va_up_ne _ _ hb]
  unfold zrs
  rw [this]
theorem zrs_zrs (z : zS) (a : Nat) (xs ys : List Int32) : zrs (zrs z a xs) a ys = zrs z a ys := by
  have : va_up (va_up z.1 a xs) a ys = va_up z.1 a ys := by
    funext b
    by_cases hb : b = a
    · rw [hb, va_up_self, va_up_self]
    · rw [va_up_ne _ _ hb, va_up_ne _ _ hb, va_up_ne _ _ hb]
  unfold zrs
  rw [this]
theorem zrs_at (z : zS) (a : Nat) (xs : List Int32) : (zrs z a xs).1 a = xs := va_up_self _ _ _
theorem zrs_ne (z : zS) {a b : Nat} (xs : List Int32) (h : b ≠ a) : (zrs z a xs).1 b = z.1 b := va_up_ne _ _ h
set_option maxRecDepth 100000 in
theorem zmo_all : (List.range 190).all (fun a => Nat.ble (zmo a) 4539) = true := by decide +kernel
theorem zmo_le (a : Nat) : zmo a ≤ 4539 := by
  by_cases h : a < 190
  · exact Nat.le_of_ble_eq_true (List.all_eq_true.mp zmo_all a (List.mem_range.mpr h))
  · have : lkd a = (0, 0, 0) := by
      unfold lkd
      have h1 : Nat.ble a 189 = false := by
        cases hb : Nat.ble a 189 with
        | false => rfl
        | true => exact absurd (Nat.le_of_ble_eq_true hb) (by omega)
      rw [h1]
      rfl
    unfold zmo
    rw [this]
    exact Nat.zero_le _
theorem lkd_big {a : Nat} (h : 189 < a) : lkd a = (0, 0, 0) := by
  unfold lkd
  have h1 : Nat.ble a 189 = false := by
    cases hb : Nat.ble a 189 with
    | false => rfl
    | true => exact absurd (Nat.le_of_ble_eq_true hb) (by omega)
  rw [h1]
  rfl
section
variable {h : xH} {a w : Nat} {m u x : Int32}
theorem r1_m (hr : h.1 a = some (.inr (4, [.int m, .ref w, .int u]))) : O1.1 h a 4 0 = some m := by show o1I h a 4 0 = _; unfold o1I; rw [hr]; rfl
theorem r1_u (hr : h.1 a = some (.inr (4, [.int m, .ref w, .int u]))) : O1.1 h a 4 2 = some u := by show o1I h a 4 2 = _; unfold o1I; rw [hr]; rfl
theorem r1_w (hr : h.1 a = some (.inr (4, [.int m, .ref w, .int u]))) : O1.2.1 h a 4 1 = some w := by show o1R h a 4 1 = _; unfold o1R; rw [hr]; rfl
theorem r1_pu (hr : h.1 a = some (.inr (4, [.int m, .ref w, .int u]))) : O1.2.2.1 h a 4 2 (.int x) = some (va_up h.1 a (some (.inr (4, [.int m, .ref w, .int x]))), h.2) := by show o1P h a 4 2 _ = _; unfold o1P; rw [hr]; rfl
theorem r1_pw {v : Nat} (hr : h.1 a = some (.inr (4, [.int m, .ref w, .int u]))) : O1.2.2.1 h a 4 1 (.ref v) = some (va_up h.1 a (some (.inr (4, [.int m, .ref v, .int u]))), h.2) := by show o1P h a 4 1 _ = _; unfold o1P; rw [hr]; rfl
theorem r1_o (hr : h.1 a = some (.inr (4, [.int m, .ref w, .int u]))) : o1O h a 4 = true := by unfold o1O; rw [hr]; rfl
theorem r1_L {n : Nat} {f : Nat → Int32} (hr : h.1 w = some (.inl (0, n, f))) {i : Int32} {j : Nat} (hi : ¬ i < 0) (hj : i.toNatClampNeg = j) (hl : j < n) : O1.2.2.2.2.2.1 h 0 w i = some (f j) := by
  show o1L h 0 w i = _
  unfold o1L
  rw [hr]
  simp only
  rw [if_pos ⟨Or.inl trivial, fun q => q.elim hi (fun q => by omega)⟩, hj]
theorem r1_S {n : Nat} {f : Nat → Int32} (hr : h.1 w = some (.inl (0, n, f))) {i : Int32} {j : Nat} (hi : ¬ i < 0) (hj : i.toNatClampNeg = j) (hl : j < n) : O1.2.2.2.2.2.2.1 h 0 w i x = some (va_up h.1 w (some (.inl (0, n, upd f j x))), h.2) := by
  show o1S h 0 w i x = _
  unfold o1S
  rw [hr]
  simp only
  rw [if_pos ⟨trivial, fun q => q.elim hi (fun q => by omega)⟩, hj]
theorem r1_len {n : Nat} {f : Nat → Int32} (hr : h.1 w = some (.inl (0, n, f))) : O1.2.2.2.2.2.2.2.1 h w = some (nI n) := by show o1len h w = _; unfold o1len; rw [hr]; rfl
end
theorem xden1 {d m : Nat} {as : List Value} {h : xH} (hc : xrc O1 m as h = true) : xden O1 xnp (d + 1) m as h = xruns O1 (xden O1 xnp d) m 0 (as ++ List.replicate (xmx m - as.length) .null) [] h := by
  show (bif xrc O1 m as h then _ else none) = _
  rw [hc]
  rfl
section
variable {L : Nat} {h : xH} {z : zS} {own cap : Nat → Nat} {a d : Nat}
theorem z_len (hS : zSimC L h z own cap) (ha : zrow a = true) : (z.1 a).length ≤ 4539 := by
  obtain ⟨f, -, -, -, r, -⟩ := hS.1 a ha
  have := zmo_le a
  omega
theorem z55 (hS : zSimC L h z own cap) (ha : zrow a = true) : xden O1 xnp (d + 1) 55 [.ref a] h = some (nI (z.1 a).length, h) := by
  obtain ⟨f, r1, -⟩ := hS.1 a ha
  rw [xden1 (show xrc O1 55 [.ref a] h = true by show (true && true && o1O h a 4) = true; rw [r1_o r1]; rfl)]
  show xruns O1 _ 55 0 [.ref a] [] h = _
  rw [B55_0, r1_u r1]
  rfl
theorem z56 (hS : zSimC L h z own cap) (ha : zrow a = true) (i : Int32) : xden O1 xnp (d + 1) 56 [.ref a, .int i] h = some (zget (z.1 a) i, h) := by
  have hl := z_len hS ha
  obtain ⟨f, r1, r2, r3, r4, r5, r6, r7⟩ := hS.1 a ha
  rw [xden1 (show xrc O1 56 [.ref a, .int i] h = true by show (true && true && o1O h a 4) = true; rw [r1_o r1]; rfl)]
  show xruns O1 _ 56 0 [.ref a, .int i] [] h = _
  unfold zget
  rw [B56_0]
  split
  · next h0 => rw [B56_21, B56_22]
  · next h0 =>
    rw [B56_4, r1_u r1, Option.bind_some]
    split
    · next h1 => rw [B56_21, B56_22]
    · next h1 =>
      obtain ⟨j, j1, -, -, j2, -⟩ := pk_mu h0 h1 (by omega)
      rw [B56_12, r1_w r1, Option.bind_some, r1_L r2 h0 j2 (by omega), Option.bind_some, B56_22, j2, r7 j j1]
      simp [List.getD, j1]
theorem z57 (hS : zSimC L h z own cap) (ha : zrow a = true) : xden O1 xnp (d + 2) 57 [.ref a] h = some (zget (z.1 a) (nI (z.1 a).length - 1), h) := by
  have hS' := hS
  obtain ⟨f, r1, -⟩ := hS.1 a ha
  rw [xden1 (show xrc O1 57 [.ref a] h = true by show (true && true && o1O h a 4) = true; rw [r1_o r1]; rfl)]
  show xruns O1 _ 57 0 [.ref a] [] h = _
  rw [B57_0, r1_u r1, Option.bind_some, z56 hS' ha]
  rfl
theorem z60 (hS : zSimC L h z own cap) (ha : zrow a = true) (i b : Int32) : xden O1 xnp (d + 1) 60 [.ref a, .int i, .int b] h = some (zhas (z.1 a) i b, h) := by
  have hl := z_len hS ha
  obtain ⟨f, r1, r2, r3, r4, r5, r6, r7⟩ := hS.1 a ha
  rw [xden1 (show xrc O1 60 [.ref a, .int i, .int b] h = true by show (true && true && o1O h a 4) = true; rw [r1_o r1]; rfl)]
  show xruns O1 _ 60 0 [.ref a, .int i, .int b] [] h = _
  unfold zhas
  have e30 : xruns O1 (xden O1 xnp d) 60 30 [.ref a, .int i, .int b] [] h = some (0, h) := by rw [B60_30, B60_31, if_pos (Or.inl rfl)]
  rw [B60_0]
  split
  · exact e30
  · next h0 =>
    rw [B60_4, r1_u r1, Option.bind_some]
    split
    · exact e30
    · next h1 =>
      obtain ⟨j, j1, -, -, j2, -⟩ := pk_mu h0 h1 (by omega)
      rw [B60_12, r1_w r1, Option.bind_some, r1_L r2 h0 j2 (by omega), Option.bind_some, j2, r7 j j1, show (z.1 a).getD j 0 = (z.1 a)[j] by simp [List.getD, j1]]
      split
      · rw [B60_26, B60_31, if_pos (Or.inr rfl)]
      · exact e30
/-- a place of the row is written -/
theorem zC_set (hS : zSimC L h z own cap) (ha : zrow a = true) {j n : Nat} {f : Nat → Int32} {v : Int32} (hj : j < (z.1 a).length) (hw : h.1 (own a) = some (.inl (0, n, f))) : zSimC L (va_up h.1 (own a) (some (.inl (0, n, upd f j v))), h.2) (zrs z a ((z.1 a).set j v)) own cap := by
  obtain ⟨f', r1, r2, r3, r4, r5, r6, r7⟩ := hS.1 a ha
  rw [hw] at r2
  cases r2
  have hne : a ≠ own a := fun q => by
    have h1 := (hS.2.2.1 a ha).1
    rw [← q, zrow_k ha] at h1
    cases h1
  refine zC_row hS ha rfl (fun b b1 b2 => va_up_ne _ _ b2) (fun b hb => ?_) ⟨upd f j v, ?_, va_up_self _ _ _, by simpa using r3, by simpa using r4, r5, r6, fun i hi => ?_⟩
  · by_cases hbo : b = own a
    · subst hbo; rw [hw]; intro q; cases q
    · rw [show (va_up h.1 (own a) (some (Sum.inl (0, cap a, upd f j v))), h.2).1 b = h.1 b from va_up_ne _ _ hbo] at hb; exact hb
  · show va_up h.1 (own a) _ a = _
    rw [va_up_ne _ _ hne, r1, List.length_set]
  · rw [List.length_set] at hi
    rw [List.getElem_set]
    by_cases hij : j = i
    · subst hij; simp [upd]
    · rw [if_neg hij, ← r7 i hi]
      simp [upd, Ne.symm hij]
theorem z58 (hS : zSimC L h z own cap) (ha : zrow a = true) (i v : Int32) : ∃ h', xden O1 xnp (d + 1) 58 [.ref a, .int i, .int v] h = some (0, h') ∧ zSimC L h' (zrs z a (zset (z.1 a) i v)) own cap := by
  have hl := z_len hS ha
  obtain ⟨f, r1, r2, r3, r4, r5, r6, r7⟩ := hS.1 a ha
  rw [xden1 (show xrc O1 58 [.ref a, .int i, .int v] h = true by show (true && true && o1O h a 4) = true; rw [r1_o r1]; rfl)]
  show ∃ h', xruns O1 _ 58 0 [.ref a, .int i, .int v] [] h = _ ∧ _
  unfold zset
  rw [B58_0]
  split
  · exact ⟨h, B58_19 _ _ _ _, by rw [zrs_self]; exact hS⟩
  · next h0 =>
    rw [B58_4, r1_u r1, Option.bind_some]
    split
    · exact ⟨h, B58_19 _ _ _ _, by rw [zrs_self]; exact hS⟩
    · next h1 =>
      obtain ⟨j, j1, -, -, j2, -⟩ := pk_mu h0 h1 (by omega)
      rw [B58_12, r1_w r1, Option.bind_some, r1_S r2 h0 j2 (by omega), Option.bind_some, B58_19]
      exact ⟨_, rfl, by rw [j2]; exact zC_set hS ha j1 r2⟩
theorem z59 (hS : zSimC L h z own cap) (ha : zrow a = true) (i b : Int32) : ∃ h', xden O1 xnp (d + 1) 59 [.ref a, .int i, .int b] h = some (0, h') ∧ zSimC L h' (zrs z a (zsb (z.1 a) i b)) own cap := by
  have hl := z_len hS ha
  obtain ⟨f, r1, r2, r3, r4, r5, r6, r7⟩ := hS.1 a ha
  rw [xden1 (show xrc O1 59 [.ref a, .int i, .int b] h = true by show (true && true && o1O h a 4) = true; rw [r1_o r1]; rfl)]
  show ∃ h', xruns O1 _ 59 0 [.ref a, .int i, .int b] [] h = _ ∧ _
  unfold zsb zset zget
  rw [B59_0]
  split
  · exact ⟨h, B59_24 _ _ _ _, by rw [zrs_self]; exact hS⟩
  · next h0 =>
    rw [B59_4, r1_u r1, Option.bind_some]
    split
    · exact ⟨h, B59_24 _ _ _ _, by rw [zrs_self]; exact hS⟩
    · next h1 =>
      obtain ⟨j, j1, -, -, j2, -⟩ := pk_mu h0 h1 (by omega)
      rw [B59_12, r1_w r1, Option.bind_some, r1_L r2 h0 j2 (by omega), Option.bind_some, r1_S r2 h0 j2 (by omega), Option.bind_some, B59_24]
      refine ⟨_, rfl, ?_⟩
      rw [j2, show (z.1 a).getD j 0 = f j by rw [r7 j j1]; simp [List.getD, j1]]
      exact zC_set hS ha j1 r2
/-- fewer places are used -/
theorem zC_take (hS : zSimC L h z own cap) (ha : zrow a = true) {m : Int32} {n w : Nat} {u : Int32} (hr : h.1 a = some (.inr (4, [.int m, .ref w, .int u]))) (hn : n ≤ (z.1 a).length) : zSimC L (va_up h.1 a (some (.inr (4, [.int m, .ref w, .int (nI n)]))), h.2) (zrs z a ((z.1 a).take n)) own cap := by
  obtain ⟨f, r1, r2, r3, r4, r5, r6, r7⟩ := hS.1 a ha
  rw [hr] at r1
  cases r1
  have hne : own a ≠ a := fun q => by
    have h1 := (hS.2.2.1 a ha).1
    rw [q, zrow_k ha] at h1
    cases h1
  have hl : ((z.1 a).take n).length = n := by rw [List.length_take]; omega
  refine zC_row hS ha rfl (fun b b1 b2 => va_up_ne _ _ b1) (fun b hb => ?_) ⟨f, ?_, ?_, by omega, by omega, r5, r6, fun i hi => ?_⟩
  · by_cases hba : b = a
    · subst hba; rw [hr]; intro q; cases q
    · rw [show (va_up h.1 a (some (Sum.inr (4, [Value.int (nI (zmo a)), Value.ref (own a), Value.int (nI n)]))), h.2).1 b = h.1 b from va_up_ne _ _ hba] at hb; exact hb
  · show va_up h.1 a _ a = _
    rw [va_up_self, hl]
  · show va_up h.1 a _ (own a) = _
    rw [va_up_ne _ _ hne]
    exact r2
  · rw [List.getElem_take]
    exact r7 i (by omega)
theorem z62 (hS : zSimC L h z own cap) (ha : zrow a = true) (n : Int32) : ∃ h', xden O1 xnp (d + 1) 62 [.ref a, .int n] h = some (0, h') ∧ zSimC L h' (zrs z a (zkeep (z.1 a) n)) own cap := by
  have hl := z_len hS ha
  obtain ⟨f, r1, r2, r3, r4, r5, r6, r7⟩ := hS.1 a ha
  rw [xden1 (show xrc O1 62 [.ref a, .int n] h = true by show (true && true && o1O h a 4) = true; rw [r1_o r1]; rfl)]
  show ∃ h', xruns O1 _ 62 0 [.ref a, .int n] [] h = _ ∧ _
  unfold zkeep
  rw [B62_0]
  split
  · exact ⟨h, B62_17 _ _ _, by rw [zrs_self]; exact hS⟩
  · next h0 =>
    rw [B62_4, r1_u r1, Option.bind_some]
    split
    · exact ⟨h, B62_17 _ _ _, by rw [zrs_self]; exact hS⟩
    · next h1 =>
      obtain ⟨j, j1, j3, -, j2, -⟩ := pk_mu h0 h1 (by omega)
      rw [B62_12, r1_pu r1, Option.bind_some, B62_17]
      refine ⟨_, rfl, ?_⟩
      rw [j2, j3]
      exact zC_take hS ha r1 (by omega)
theorem z63 (hS : zSimC L h z own cap) (ha : zrow a = true) : ∃ h', xden O1 xnp (d + 1) 63 [.ref a] h = some (0, h') ∧ zSimC L h' (zrs z a []) own cap := by
  obtain ⟨f, r1, r2, r3, r4, r5, r6, r7⟩ := hS.1 a ha
  rw [xden1 (show xrc O1 63 [.ref a] h = true by show (true && true && o1O h a 4) = true; rw [r1_o r1]; rfl)]
  show ∃ h', xruns O1 _ 63 0 [.ref a] [] h = _ ∧ _
  rw [B63_0, r1_pu r1]
  exact ⟨_, rfl, zC_take (n := 0) hS ha r1 (Nat.zero_le _)⟩
end
