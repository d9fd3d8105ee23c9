/-! a row grows; add, fill, copy; and all of level 2 is followed -/
set_option maxRecDepth 100000 in
theorem zRL_all : (List.range 190).all (fun a => !(zrow a) || zRL.contains a) = true := by decide +kernel
set_option maxRecDepth 100000 in
theorem zRL_nd : zRL.Nodup := by decide +kernel
theorem zRL_in {a : Nat} (h : zrow a = true) : a ∈ zRL := by
  have h1 : a < 190 := by
    rcases Nat.lt_or_ge a 190 with q | q
    · exact q
    · have := zrow_k h
      rw [lkd_big (by omega)] at this
      cases this
  have h2 := List.all_eq_true.mp zRL_all a (List.mem_range.mpr h1)
  rw [h] at h2
  simpa using h2
theorem sum_up {c : Nat → Nat} {a v : Nat} : ∀ {l : List Nat}, l.Nodup → a ∈ l → (l.map (va_up c a v)).sum + c a = (l.map c).sum + v := by
  have out : ∀ {l : List Nat}, a ∉ l → l.map (va_up c a v) = l.map c := by
    intro l h
    apply List.map_congr_left
    intro b hb
    exact va_up_ne _ _ (fun q => h (q ▸ hb))
  intro l
  induction l with
  | nil => intro _ h; cases h
  | cons b l ih =>
    intro hn ha
    obtain ⟨n1, n2⟩ := List.nodup_cons.mp hn
    simp only [List.map_cons, List.sum_cons]
    by_cases hb : b = a
    · subst hb
      rw [va_up_self, out n1]
      omega
    · rw [va_up_ne _ _ hb]
      have := ih n2 (by
        rcases List.mem_cons.mp ha with q | q
        · exact absurd q.symm hb
        · exact q)
      omega
section
variable {L : Nat} {h : xH} {z : zS} {own cap : Nat → Nat} {a d : Nat}
theorem zC_grow (hS : zSimC L h z own cap) (ha : zrow a = true) {n' : Nat} {f' : Nat → Int32} (h1 : cap a < n') (h2 : n' ≤ zmo a) (h3 : n' = zmo a ∨ 2 * cap a ≤ n') (hf : ∀ (i : Nat) (hi : i < (z.1 a).length), f' i = (z.1 a)[i]) :
    zSimC L (va_up (va_up h.1 h.2.1 (some (.inl (0, n', f')))) a (some (.inr (4, [.int (nI (zmo a)), .ref h.2.1, .int (nI (z.1 a).length)]))), h.2.1 + 1, h.2.2 + n') z (va_up own a h.2.1) (va_up cap a n') := by
  obtain ⟨s1, s2, s3, s4, s5, s6, s7, s8, s9, s10⟩ := hS
  obtain ⟨f, r1, r2, r3, r4, r5, r6, r7⟩ := s1 a ha
  have hw : ∀ b, h.1 b ≠ none → b ≠ h.2.1 := fun b hb q => by have := s7 b hb; omega
  have get : ∀ b, b ≠ a → h.1 b ≠ none → va_up (va_up h.1 h.2.1 (some (.inl (0, n', f')))) a (some (.inr (4, [.int (nI (zmo a)), .ref h.2.1, .int (nI (z.1 a).length)]))) b = h.1 b := fun b b1 b2 => by rw [va_up_ne _ _ b1, va_up_ne _ _ (hw b b2)]
  have hka := zrow_k ha
  have hwa : h.2.1 ≠ a := fun q => hw a (by rw [r1]; intro q; cases q) q.symm
  have hz := sum_up (c := cap) (v := n') zRL_nd (zRL_in ha)
  have hz2 := sum_up (c := fun b => zal (cap b) (zmo b)) (v := zal n' (zmo a)) zRL_nd (zRL_in ha)
  have he : (fun b => zal (va_up cap a n' b) (zmo b)) = va_up (fun b => zal (cap b) (zmo b)) a (zal n' (zmo a)) := by
    funext b
    by_cases hb : b = a
    · subst hb; rw [va_up_self, va_up_self]
    · rw [va_up_ne _ _ hb, va_up_ne _ _ hb]
  have hal : zal (cap a) (zmo a) + n' ≤ zal n' (zmo a) := by
    unfold zal
    split <;> split <;> omega
  refine ⟨fun b hb => ?_, fun b b' hb hb' e => ?_, fun b hb => ?_, fun b c hb => ?_, fun b t hb => ?_, ?_, fun b hb => ?_, ?_, ?_, ?_⟩
  · by_cases hba : b = a
    · subst hba
      rw [va_up_self, va_up_self]
      refine ⟨f', va_up_self _ _ _, ?_, by omega, r4, by omega, Or.inr h2, hf⟩
      show va_up (va_up h.1 h.2.1 _) b _ h.2.1 = _
      rw [va_up_ne _ _ hwa, va_up_self]
    · rw [va_up_ne _ _ hba, va_up_ne _ _ hba]
      obtain ⟨f2, q1, q2, q3⟩ := s1 b hb
      refine zRow_kept (s1 b hb) (get b hba (by rw [q1]; intro q; cases q)) (get _ (fun q => ?_) (by rw [q2]; intro q; cases q))
      have := (s3 b hb).1; rw [q, hka] at this; cases this
  · by_cases e1 : b = a <;> by_cases e2 : b' = a
    · rw [e1, e2]
    · rw [e1, va_up_self, va_up_ne _ _ e2] at e
      obtain ⟨f2, q1, q2, q3⟩ := s1 b' hb'
      exact absurd e.symm (hw _ (by rw [q2]; intro q; cases q))
    · rw [e2, va_up_self, va_up_ne _ _ e1] at e
      obtain ⟨f2, q1, q2, q3⟩ := s1 b hb
      exact absurd e (hw _ (by rw [q2]; intro q; cases q))
    · rw [va_up_ne _ _ e1, va_up_ne _ _ e2] at e
      exact s2 b b' hb hb' e
  · by_cases hba : b = a
    · rw [hba, va_up_self, lkd_big s8]
      exact ⟨rfl, by omega⟩
    · rw [va_up_ne _ _ hba]
      exact s3 b hb
  · exact (get b (fun q => by rw [q] at hb; have := (zob_k hb).1; rw [hka] at this; cases this) (by rw [s4 b c hb]; intro q; cases q)).trans (s4 b c hb)
  · exact (get b (fun q => by rw [q] at hb; have := (zar_k hb).1; rw [hka] at this; cases this) (by rw [s5 b t hb]; intro q; cases q)).trans (s5 b t hb)
  · exact (get 0 (fun q => by rw [← q, lkd_0] at hka; cases hka) (by rw [s6]; intro q; cases q)).trans s6
  · show b < h.2.1 + 1
    by_cases e1 : b = h.2.1
    · omega
    · by_cases e2 : b = a
      · have := s7 a (by rw [r1]; intro q; cases q); omega
      · have := s7 b (by
          rw [show (va_up (va_up h.1 h.2.1 (some (Sum.inl (0, n', f')))) a (some (Sum.inr (4, [Value.int (nI (zmo a)), Value.ref h.2.1, Value.int (nI (z.1 a).length)]))), h.2.1 + 1, h.2.2 + n').1 b = h.1 b by show va_up (va_up h.1 h.2.1 _) a _ b = _; rw [va_up_ne _ _ e2, va_up_ne _ _ e1]] at hb
          exact hb)
        omega
  · show 189 < h.2.1 + 1
    omega
  · show h.2.1 + 1 ≤ _
    omega
  · show h.2.2 + n' ≤ _
    rw [he]
    omega
theorem mk_loop (hS : zSimC L h z own cap) (ha : zrow a = true) {n' : Nat} {f : Nat → Int32} (h1 : cap a < n') (h2 : n' ≤ zmo a) (hw : h.1 (own a) = some (.inl (0, cap a, f))) (x1 : Int32) : ∀ (r k : Nat) (fk : Nat → Int32), k + r = cap a → (∀ j, j < k → fk j = f j) →
    ∃ f', (∀ j, j < cap a → f' j = f j) ∧ xruns O1 (xden O1 xnp d) 66 43 [.ref a, .int x1, .ref h.2.1, .int (nI k)] [] (va_up h.1 h.2.1 (some (.inl (0, n', fk))), h.2.1 + 1, h.2.2 + n') = some (0, (va_up (va_up h.1 h.2.1 (some (.inl (0, n', f')))) a (some (.inr (4, [.int (nI (zmo a)), .ref h.2.1, .int (nI (z.1 a).length)]))), h.2.1 + 1, h.2.2 + n')) := by
  have hmo := zmo_le a
  obtain ⟨f0, r1, -⟩ := hS.1 a ha
  have na : a ≠ h.2.1 := fun q => by have := hS.2.2.2.2.2.2.1 a (by rw [r1]; intro q; cases q); omega
  have no : own a ≠ h.2.1 := fun q => by have := hS.2.2.2.2.2.2.1 (own a) (by rw [hw]; intro q; cases q); omega
  intro r
  induction r with
  | zero =>
    intro k fk hk hf
    have ra : (va_up h.1 h.2.1 (some (Sum.inl (0, n', fk))), h.2.1 + 1, h.2.2 + n').1 a = some (.inr (4, [.int (nI (zmo a)), .ref (own a), .int (nI (z.1 a).length)])) := by show va_up _ _ _ a = _; rw [va_up_ne _ _ na]; exact r1
    have ro : (va_up h.1 h.2.1 (some (Sum.inl (0, n', fk))), h.2.1 + 1, h.2.2 + n').1 (own a) = some (.inl (0, cap a, f)) := by show va_up _ _ _ (own a) = _; rw [va_up_ne _ _ no]; exact hw
    refine ⟨fk, fun j hj => hf j (by omega), ?_⟩
    rw [B66_43, r1_w ra, Option.bind_some, r1_len ro, Option.bind_some, if_pos (nI_le (by omega) (by omega)), B66_73, r1_pw ra]
    rfl
  | succ r ih =>
    intro k fk hk hf
    have ra : (va_up h.1 h.2.1 (some (Sum.inl (0, n', fk))), h.2.1 + 1, h.2.2 + n').1 a = some (.inr (4, [.int (nI (zmo a)), .ref (own a), .int (nI (z.1 a).length)])) := by show va_up _ _ _ a = _; rw [va_up_ne _ _ na]; exact r1
    have ro : (va_up h.1 h.2.1 (some (Sum.inl (0, n', fk))), h.2.1 + 1, h.2.2 + n').1 (own a) = some (.inl (0, cap a, f)) := by show va_up _ _ _ (own a) = _; rw [va_up_ne _ _ no]; exact hw
    have rn : (va_up h.1 h.2.1 (some (Sum.inl (0, n', fk))), h.2.1 + 1, h.2.2 + n').1 h.2.1 = some (.inl (0, n', fk)) := va_up_self _ _ _
    obtain ⟨f', g1, g2⟩ := ih (k + 1) (upd fk k (f k)) (by omega) (fun j hj => by
      by_cases hjk : j = k
      · subst hjk; simp [upd]
      · simp only [upd, if_neg hjk]; exact hf j (by omega))
    refine ⟨f', g1, ?_⟩
    rw [B66_43, r1_w ra, Option.bind_some, r1_len ro, Option.bind_some, if_neg (nI_ge (by omega) (by omega)), B66_52, r1_len rn, Option.bind_some, if_neg (nI_ge (by omega) (by omega)), B66_58, r1_w ra, Option.bind_some,
      r1_L ro (nI_pos (by omega)) (nI_clamp (by omega)) (by omega), Option.bind_some, r1_S rn (nI_pos (by omega)) (nI_clamp (by omega)) (by omega), Option.bind_some, nI_1]
    show xruns O1 _ 66 43 _ [] (va_up (va_up h.1 h.2.1 _) h.2.1 _, h.2.1 + 1, h.2.2 + n') = _
    rw [bx_uu]
    exact g2
theorem z66 (hS : zSimC L h z own cap) (ha : zrow a = true) (hl : (z.1 a).length < zmo a) : ∃ h' own' cap', xden O1 xnp (d + 1) 66 [.ref a, .int (nI ((z.1 a).length + 1))] h = some (0, h') ∧ zSimC L h' z own' cap' ∧ (z.1 a).length < cap' a := by
  have hmo := zmo_le a
  obtain ⟨f, r1, r2, r3, r4, r5, r6, r7⟩ := hS.1 a ha
  rw [xden1 (show xrc O1 66 [.ref a, .int (nI ((z.1 a).length + 1))] h = true by show (true && true && o1O h a 4) = true; rw [r1_o r1]; rfl)]
  show ∃ h' own' cap', xruns O1 _ 66 0 [.ref a, .int (nI ((z.1 a).length + 1)), .null, .null] [] h = _ ∧ _
  rw [B66_0, r1_w r1, Option.bind_some, r1_len r2, Option.bind_some]
  by_cases hc : (z.1 a).length + 1 ≤ cap a
  · rw [if_pos (nI_le hc (by omega)), B66_17]
    exact ⟨h, own, cap, rfl, hS, by omega⟩
  · have hcl : cap a = (z.1 a).length := by omega
    rw [if_neg (nI_ge (by omega) (by omega)), B66_9, r1_m r1, Option.bind_some, if_pos (nI_le (by omega) (by omega)), B66_18, r1_m r1, Option.bind_some, show (2 : Int32) * nI ((z.1 a).length + 1) = nI (2 * ((z.1 a).length + 1)) from pk_mul 2 _]
    have fin : ∀ n', cap a < n' → n' ≤ zmo a → (n' = zmo a ∨ 2 * cap a ≤ n') → ∃ h' own' cap', xruns O1 (xden O1 xnp d) 66 38 [.ref a, .int (nI ((z.1 a).length + 1)), .null, .null] [.int (nI n')] h = some (0, h') ∧ zSimC L h' z own' cap' ∧ (z.1 a).length < cap' a := by
      intro n' n1 n2 n3
      rw [B66_38]
      have hA : O1.2.2.2.2.1 h 0 (nI n') = some (h.2.1, (va_up h.1 h.2.1 (some (.inl (0, n', fun _ => 0))), h.2.1 + 1, h.2.2 + n')) := by
        show o1A h 0 (nI n') = _
        unfold o1A
        rw [nI_clamp (by omega), if_neg (fun q => q.elim (nI_pos (by omega)) (fun q => by omega))]
      rw [hA, Option.bind_some]
      obtain ⟨f', g1, g2⟩ := mk_loop (d := d) hS ha n1 n2 r2 (nI ((z.1 a).length + 1)) (cap a) 0 (fun _ => 0) (by omega) (fun j hj => by omega)
      refine ⟨_, _, _, g2, zC_grow hS ha n1 n2 n3 (fun i hi => ?_), ?_⟩
      · rw [g1 i (by omega)]; exact r7 i hi
      · rw [va_up_self]; omega
    by_cases h2 : zmo a ≤ 2 * ((z.1 a).length + 1)
    · rw [if_pos (nI_le h2 (by omega)), B66_34, r1_m r1, Option.bind_some]
      exact fin (zmo a) (by omega) (Nat.le_refl _) (Or.inl rfl)
    · rw [if_neg (nI_ge (by omega) (by omega)), B66_28, show (2 : Int32) * nI ((z.1 a).length + 1) = nI (2 * ((z.1 a).length + 1)) from pk_mul 2 _]
      exact fin (2 * ((z.1 a).length + 1)) (by omega) (by omega) (Or.inr (by omega))
theorem z61 (hS : zSim L h z) (ha : zrow a = true) (v : Int32) : ∃ h', xden O1 xnp (d + 2) 61 [.ref a, .int v] h = some (0, h') ∧ zSim L h' (zrs z a (zadd (zmo a) (z.1 a) v)) := by
  obtain ⟨own, cap, hS⟩ := hS
  have hmo := zmo_le a
  obtain ⟨f, r1, r2, r3, r4, r5, r6, r7⟩ := hS.1 a ha
  rw [xden1 (show xrc O1 61 [.ref a, .int v] h = true by show (true && true && o1O h a 4) = true; rw [r1_o r1]; rfl)]
  show ∃ h', xruns O1 _ 61 0 [.ref a, .int v] [] h = _ ∧ _
  rw [B61_0, r1_u r1, Option.bind_some, r1_m r1, Option.bind_some]
  unfold zadd
  by_cases hl : (z.1 a).length < zmo a
  · rw [if_neg (nI_ge hl (by omega)), if_pos hl, B61_11, r1_u r1, Option.bind_some, nI_1]
    obtain ⟨h1, own1, cap1, g1, g2, g3⟩ := z66 (d := d) hS ha hl
    rw [g1, Option.bind_some]
    obtain ⟨f, r1, r2, r3, r4, r5, r6, r7⟩ := g2.1 a ha
    have hne : a ≠ own1 a := fun q => by
      have h1 := (g2.2.2.1 a ha).1
      rw [← q, zrow_k ha] at h1
      cases h1
    have ra : (va_up h1.1 (own1 a) (some (.inl (0, cap1 a, upd f (z.1 a).length v))), h1.2).1 a = some (.inr (4, [.int (nI (zmo a)), .ref (own1 a), .int (nI (z.1 a).length)])) := by show va_up _ _ _ a = _; rw [va_up_ne _ _ hne]; exact r1
    have hcap : cap1 a ≤ 4539 := by omega
    rw [B61_21, r1_u r1, Option.bind_some, r1_m r1, Option.bind_some, if_neg (nI_ge hl (by omega)), B61_32, r1_u r1, Option.bind_some, r1_w r1, Option.bind_some, r1_len r2, Option.bind_some, if_neg (nI_ge g3 (by omega)), B61_44, r1_w r1, Option.bind_some, r1_u r1, Option.bind_some,
      r1_S r2 (nI_pos (by omega)) (nI_clamp (by omega)) g3, Option.bind_some, r1_u ra, Option.bind_some, r1_pu ra, Option.bind_some, B61_64, nI_1]
    refine ⟨_, rfl, own1, cap1, ?_⟩
    refine zC_row g2 ha rfl (fun b b1 b2 => ?_) (fun b hb => ?_) ⟨upd f (z.1 a).length v, ?_, ?_, ?_, ?_, r5, r6, fun i hi => ?_⟩
    · show va_up (va_up h1.1 _ _) _ _ b = _
      rw [va_up_ne _ _ b1, va_up_ne _ _ b2]
    · by_cases e1 : b = a
      · subst e1; rw [r1]; intro q; cases q
      · by_cases e2 : b = own1 a
        · subst e2; rw [r2]; intro q; cases q
        · replace hb : va_up (va_up h1.1 _ _) _ _ b ≠ none := hb
          rw [va_up_ne _ _ e1, va_up_ne _ _ e2] at hb
          exact hb
    · show va_up (va_up h1.1 _ _) _ _ a = _
      rw [va_up_self]
      simp
    · show va_up (va_up h1.1 _ _) _ _ (own1 a) = _
      rw [va_up_ne _ _ hne.symm, va_up_self]
    · simp; omega
    · simp; omega
    · simp only [List.length_append, List.length_cons, List.length_nil] at hi
      by_cases hi2 : i < (z.1 a).length
      · rw [List.getElem_append_left hi2, ← r7 i hi2]
        simp [upd, Nat.ne_of_lt hi2]
      · have : i = (z.1 a).length := by omega
        subst this
        simp [upd]
  · rw [if_pos (nI_le (by omega) (by omega)), if_neg hl, B61_21, r1_u r1, Option.bind_some, r1_m r1, Option.bind_some, if_pos (nI_le (by omega) (by omega)), B61_64]
    exact ⟨h, rfl, own, cap, by rw [zrs_self]; exact hS⟩
theorem zadd_rep {mo k : Nat} {v : Int32} : zadd mo (List.replicate (min k mo) v) v = List.replicate (min (k + 1) mo) v := by
  unfold zadd
  rw [List.length_replicate]
  split
  · next q => rw [show min (k + 1) mo = min k mo + 1 by omega, List.replicate_succ']
  · next q => rw [show min (k + 1) mo = min k mo by omega]
theorem z64_loop (ha : zrow a = true) {n v : Int32} {N : Nat} (hN : n.toNatClampNeg = N) (hn : 0 < n) : ∀ (r k : Nat) (h : xH), k + r = N → zSim L h (zrs z a (List.replicate (min k (zmo a)) v)) →
    ∃ h', xruns O1 (xden O1 xnp (d + 2)) 64 7 [.ref a, .int n, .int v, .int (nI k)] [] h = some (0, h') ∧ zSim L h' (zrs z a (List.replicate (min N (zmo a)) v)) := by
  have hn2 : n = nI N := by
    obtain ⟨j, j1, j2⟩ := nI_of (x := n) (by rw [Int32.lt_iff_toInt_lt] at hn ⊢; simp at hn ⊢; omega)
    rw [j2, nI_clamp j1] at hN
    rw [j2, hN]
  have hb : N < 2 ^ 31 := by
    obtain ⟨j, j1, j2⟩ := nI_of (x := n) (by rw [Int32.lt_iff_toInt_lt] at hn ⊢; simp at hn ⊢; omega)
    rw [j2, nI_clamp j1] at hN
    omega
  intro r
  induction r with
  | zero =>
    intro k h hk hS
    rw [B64_7, hn2, if_pos (nI_le (by omega) (by omega)), B64_23]
    have : k = N := by omega
    subst this
    exact ⟨h, rfl, hS⟩
  | succ r ih =>
    intro k h hk hS
    rw [B64_7, hn2, if_neg (nI_ge (by omega) (by omega)), B64_12]
    obtain ⟨h1, g1, g2⟩ := z61 (d := d) hS ha v
    rw [g1, Option.bind_some, nI_1]
    rw [zrs_at, zrs_zrs, zadd_rep] at g2
    obtain ⟨h', g3, g4⟩ := ih (k + 1) h1 (by omega) g2
    rw [hn2] at g3
    exact ⟨h', g3, g4⟩
theorem z64 (hS : zSim L h z) (ha : zrow a = true) (n v : Int32) : ∃ h', xden O1 xnp (d + 3) 64 [.ref a, .int n, .int v] h = some (0, h') ∧ zSim L h' (zrs z a (List.replicate (min n.toNatClampNeg (zmo a)) v)) := by
  obtain ⟨own, cap, hS⟩ := hS
  obtain ⟨f, r1, r2, r3, r4, r5, r6, r7⟩ := hS.1 a ha
  rw [xden1 (show xrc O1 64 [.ref a, .int n, .int v] h = true by show (true && true && o1O h a 4) = true; rw [r1_o r1]; rfl)]
  show ∃ h', xruns O1 _ 64 0 [.ref a, .int n, .int v, .null] [] h = _ ∧ _
  rw [B64_0, r1_pu r1, Option.bind_some]
  have hT := zC_take (n := 0) hS ha r1 (Nat.zero_le _)
  rw [List.take_zero, nI_0] at hT
  have hT : zSim L _ _ := ⟨own, cap, hT⟩
  by_cases hn : 0 < n
  · exact z64_loop (z := z) ha rfl hn n.toNatClampNeg 0 _ (by omega) (by rw [Nat.zero_min]; exact hT)
  · have hn0 : n ≤ 0 := by rw [Int32.le_iff_toInt_le]; rw [Int32.lt_iff_toInt_lt] at hn; omega
    have hc : n.toNatClampNeg = 0 := by
      rw [Int32.le_iff_toInt_le] at hn0
      have h0 : (0 : Int32).toInt = 0 := rfl
      rw [h0] at hn0
      show n.toInt.toNat = 0
      omega
    rw [B64_7, if_pos hn0, B64_23]
    exact ⟨_, rfl, by rw [hc, Nat.zero_min]; exact hT⟩
theorem take_add {mo k : Nat} {ys : List Int32} (hk : k < ys.length) : zadd mo ((ys.take k).take mo) (ys.getD k 0) = (ys.take (k + 1)).take mo := by
  unfold zadd
  have h1 : ys.getD k 0 = ys[k] := by simp [List.getD, hk]
  rw [h1, List.length_take, List.length_take, List.take_take, List.take_take]
  split
  · next q =>
    rw [show min mo k = k by omega, show min mo (k + 1) = k + 1 by omega, List.take_add_one]
    simp [hk]
  · next q => rw [show min mo (k + 1) = min mo k by omega]
theorem z65_loop {b : Nat} (ha : zrow a = true) (hb : zrow b = true) (hab : a ≠ b) (hlen : (z.1 b).length ≤ 4539) : ∀ (r k : Nat) (h : xH), k + r = (z.1 b).length → zSim L h (zrs z a (((z.1 b).take k).take (zmo a))) →
    ∃ h', xruns O1 (xden O1 xnp (d + 2)) 65 7 [.ref a, .ref b, .int (nI k)] [] h = some (0, h') ∧ zSim L h' (zrs z a ((z.1 b).take (zmo a))) := by
  intro r
  induction r with
  | zero =>
    intro k h hk hS
    obtain ⟨own, cap, hC⟩ := hS
    rw [B65_7, z55 hC hb, Option.bind_some, zrs_ne _ _ hab.symm, if_pos (nI_le (by omega) (by omega)), B65_30]
    have : (z.1 b).take k = z.1 b := List.take_of_length_le (by omega)
    rw [this] at hC
    exact ⟨h, rfl, own, cap, hC⟩
  | succ r ih =>
    intro k h hk hS
    have hS2 := hS
    obtain ⟨own, cap, hC⟩ := hS
    rw [B65_7, z55 hC hb, Option.bind_some, zrs_ne _ _ hab.symm, if_neg (nI_ge (by omega) (by omega)), B65_15, z56 hC hb, Option.bind_some, zrs_ne _ _ hab.symm]
    have hg : zget (z.1 b) (nI k) = (z.1 b).getD k 0 := by
      unfold zget
      rw [if_neg (nI_pos (by omega)), if_neg (nI_ge (by omega) (by omega)), nI_clamp (by omega)]
    rw [hg]
    obtain ⟨h1, g1, g2⟩ := z61 (d := d) hS2 ha ((z.1 b).getD k 0)
    simp only
    rw [g1, Option.bind_some, nI_1]
    rw [zrs_at, zrs_zrs, take_add (by omega)] at g2
    exact ih (k + 1) h1 (by omega) g2
theorem z65 {b : Nat} (hS : zSim L h z) (ha : zrow a = true) (hb : zrow b = true) (hab : a ≠ b) : ∃ h', xden O1 xnp (d + 3) 65 [.ref a, .ref b] h = some (0, h') ∧ zSim L h' (zrs z a ((z.1 b).take (zmo a))) := by
  obtain ⟨own, cap, hS⟩ := hS
  have hl := z_len hS hb
  obtain ⟨f, r1, r2, r3, r4, r5, r6, r7⟩ := hS.1 a ha
  rw [xden1 (show xrc O1 65 [.ref a, .ref b] h = true by show (true && true && o1O h a 4) = true; rw [r1_o r1]; rfl)]
  show ∃ h', xruns O1 _ 65 0 [.ref a, .ref b, .null] [] h = _ ∧ _
  rw [B65_0, r1_pu r1, Option.bind_some]
  have hT := zC_take (n := 0) hS ha r1 (Nat.zero_le _)
  rw [List.take_zero, nI_0] at hT
  have hT : zSim L _ _ := ⟨own, cap, hT⟩
  exact z65_loop (z := z) ha hb hab hl (z.1 b).length 0 _ (by omega) (by rw [List.take_zero, List.take_nil]; exact hT)
end
set_option maxHeartbeats 4000000 in
theorem zp1_ok {L d m a : Nat} {as : List Value} {h : xH} {z z' : zS} {r : Int32} (hS : zSim L h z) (ha : zrow a = true) (hd : 1 ≤ d) (e : zp1 d m a as z = some (r, z')) : ∃ h', xden O1 xnp d m (.ref a :: as) h = some (r, h') ∧ zSim L h' z' := by
  have hS0 := hS
  obtain ⟨own, cap, hC⟩ := hS
  obtain ⟨d, rfl⟩ : ∃ k, d = k + 1 := ⟨d - 1, by omega⟩
  unfold zp1 at e
  split at e
  · cases e; exact ⟨h, z55 hC ha, hS0⟩
  · cases e; exact ⟨h, z56 hC ha _, hS0⟩
  · cases hb : Nat.ble 2 (d + 1) with
    | false => rw [hb] at e; cases e
    | true =>
      rw [hb] at e
      cases e
      have := Nat.le_of_ble_eq_true hb
      obtain ⟨d, rfl⟩ : ∃ k, d = k + 1 := ⟨d - 1, by omega⟩
      exact ⟨h, z57 hC ha, hS0⟩
  · cases e
    obtain ⟨h', g1, g2⟩ := z58 (d := d) hC ha _ _
    exact ⟨h', g1, own, cap, g2⟩
  · cases e
    obtain ⟨h', g1, g2⟩ := z59 (d := d) hC ha _ _
    exact ⟨h', g1, own, cap, g2⟩
  · cases e; exact ⟨h, z60 hC ha _ _, hS0⟩
  · cases hb : Nat.ble 2 (d + 1) with
    | false => rw [hb] at e; cases e
    | true =>
      rw [hb] at e
      cases e
      have := Nat.le_of_ble_eq_true hb
      obtain ⟨d, rfl⟩ : ∃ k, d = k + 1 := ⟨d - 1, by omega⟩
      exact z61 hS0 ha _
  · cases e
    obtain ⟨h', g1, g2⟩ := z62 (d := d) hC ha _
    exact ⟨h', g1, own, cap, g2⟩
  · cases e
    obtain ⟨h', g1, g2⟩ := z63 (d := d) hC ha
    exact ⟨h', g1, own, cap, g2⟩
  · cases hb : Nat.ble 3 (d + 1) with
    | false => rw [hb] at e; cases e
    | true =>
      rw [hb] at e
      cases e
      have := Nat.le_of_ble_eq_true hb
      obtain ⟨d, rfl⟩ : ∃ k, d = k + 2 := ⟨d - 2, by omega⟩
      exact z64 hS0 ha _ _
  · next b =>
    cases hb : (Nat.ble 3 (d + 1) && zrow b && !(Nat.beq a b)) with
    | false => rw [hb] at e; cases e
    | true =>
      rw [hb] at e
      cases e
      simp only [Bool.and_eq_true, Bool.not_eq_true'] at hb
      have := Nat.le_of_ble_eq_true hb.1.1
      obtain ⟨d, rfl⟩ : ∃ k, d = k + 2 := ⟨d - 2, by omega⟩
      exact z65 hS0 ha hb.1.2 (fun q => by rw [q, Nat.beq_refl] at hb; exact absurd hb.2 (by decide))
  · cases e
/-- LEVEL 2 IS FOLLOWED -/
theorem zsound {L : Nat} : ∀ (d m : Nat) (as : List Value) (h : xH) (z : zS) (r : Int32) (z' : zS), zSim L h z → zden L d m as z = some (r, z') → ∃ h', xden O1 xnp d m as h = some (r, h') ∧ zSim L h' z' := by
  intro d m as h z r z' hS e
  have key := xsim_den (f := fun a => a) (S := zSim L) (pr1 := xnp) (pr2 := zpr) (zSim_ops L) (fun h g a c hS e => zSim_O hS e)
    (fun d m as h g r g' hS e => by
      rw [xrn_ids]
      unfold zpr at e
      cases hb : (Nat.ble 54 m && Nat.ble m 66) with
      | false => rw [hb] at e; cases e
      | true =>
        rw [hb] at e
        replace e := Option.some.inj e
        cases as with
        | nil => cases e
        | cons v as =>
          cases v with
          | ref a =>
            cases ha : (zrow a && Nat.ble 1 d) with
            | false => simp only [ha, cond_false] at e; cases e
            | true =>
              simp only [ha, cond_true] at e
              simp only [Bool.and_eq_true] at ha
              exact zp1_ok hS ha.1 (Nat.le_of_ble_eq_true ha.2) e
          | _ => cases e)
    (fun d m as h g hS e => rfl) d m as h z r z' hS e
  rw [xrn_ids] at key
  exact key
