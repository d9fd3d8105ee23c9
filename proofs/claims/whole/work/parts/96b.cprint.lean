/-! PRINT: the class -/
def zO (Z : zS) (o g : List Nat) : zS := (fun r => if r = 86 then o.map nI else if r = 89 then g.map nI else Z.1 r, Z.2)
def CX (Z : zS) (t : Nat) (bs : List Nat) (T T' : CT) (K : KT) (pf pl : List Nat) : Prop := (isT t) ∧ (Z.2.2.2 4 0 = t) ∧ (∀ k, k ≤ 9 → Z.1 (t + (2 * k + 1)) = (T.1 k).map nI) ∧ (Z.1 56 = pf.map nI) ∧ (Z.1 58 = pl.map nI) ∧ (BB bs) ∧ (TXR bs T K) ∧ (PI bs bs.length T' K) ∧ (PLC (T.1 1).length pf pl)
theorem CX.it {Z : zS} {t : Nat} {bs : List Nat} {T T' : CT} {K : KT} {pf pl : List Nat} (h : CX Z t bs T T' K pf pl) : isT t := h.1
theorem CX.p0 {Z : zS} {t : Nat} {bs : List Nat} {T T' : CT} {K : KT} {pf pl : List Nat} (h : CX Z t bs T T' K pf pl) : Z.2.2.2 4 0 = t := h.2.1
theorem CX.rw {Z : zS} {t : Nat} {bs : List Nat} {T T' : CT} {K : KT} {pf pl : List Nat} (h : CX Z t bs T T' K pf pl) : ∀ k, k ≤ 9 → Z.1 (t + (2 * k + 1)) = (T.1 k).map nI := h.2.2.1
theorem CX.e56 {Z : zS} {t : Nat} {bs : List Nat} {T T' : CT} {K : KT} {pf pl : List Nat} (h : CX Z t bs T T' K pf pl) : Z.1 56 = pf.map nI := h.2.2.2.1
theorem CX.e58 {Z : zS} {t : Nat} {bs : List Nat} {T T' : CT} {K : KT} {pf pl : List Nat} (h : CX Z t bs T T' K pf pl) : Z.1 58 = pl.map nI := h.2.2.2.2.1
theorem CX.bb {Z : zS} {t : Nat} {bs : List Nat} {T T' : CT} {K : KT} {pf pl : List Nat} (h : CX Z t bs T T' K pf pl) : BB bs := h.2.2.2.2.2.1
theorem CX.tx {Z : zS} {t : Nat} {bs : List Nat} {T T' : CT} {K : KT} {pf pl : List Nat} (h : CX Z t bs T T' K pf pl) : TXR bs T K := h.2.2.2.2.2.2.1
theorem CX.pi {Z : zS} {t : Nat} {bs : List Nat} {T T' : CT} {K : KT} {pf pl : List Nat} (h : CX Z t bs T T' K pf pl) : PI bs bs.length T' K := h.2.2.2.2.2.2.2.1
theorem CX.pc {Z : zS} {t : Nat} {bs : List Nat} {T T' : CT} {K : KT} {pf pl : List Nat} (h : CX Z t bs T T' K pf pl) : PLC (T.1 1).length pf pl := h.2.2.2.2.2.2.2.2
def te (bs : List Nat) (a : Nat) : Nat → Nat
  | 0 => a
  | n + 1 => if bs[a + n]? = some 60 then a + n + tagL bs (a + n) else te bs a n
theorem te_last {bs : List Nat} {a q : Nat} : ∀ n, a ≤ q → q < a + n → bs[q]? = some 60 → (∀ j, q < j → j < a + n → bs[j]? ≠ some 60) → te bs a n = q + tagL bs q := by
  intro n
  induction n with
  | zero => intro h1 h2; omega
  | succ n ih =>
    intro h1 h2 h3 h4
    unfold te
    by_cases c : q = a + n
    · rw [← c, if_pos h3]
    · rw [if_neg (h4 (a + n) (by omega) (by omega)), ih h1 (by omega) h3 (fun j j1 j2 => h4 j j1 (by omega))]
theorem te_cases (bs : List Nat) (a : Nat) : ∀ n, te bs a n = a ∨ ∃ q, a ≤ q ∧ q < a + n ∧ bs[q]? = some 60 ∧ te bs a n = q + tagL bs q := by
  intro n
  induction n with
  | zero => exact Or.inl rfl
  | succ n ih =>
    unfold te
    by_cases c : bs[a + n]? = some 60
    · rw [if_pos c]
      exact Or.inr ⟨a + n, by omega, by omega, c, rfl⟩
    · rw [if_neg c]
      rcases ih with q | ⟨q, q1, q2, q3, q4⟩
      · exact Or.inl q
      · exact Or.inr ⟨q, q1, by omega, q3, q4⟩
theorem te_iff {bs : List Nat} {T' : CT} {K : KT} {a n : Nat} (pi : PI bs bs.length T' K) (ha : a = 0 ∨ inS K a) (hn : a + n < bs.length) : te bs a (n + 1) ≤ a + n ↔ inS K (a + n) := by
  constructor
  · intro h
    refine Classical.byContradiction fun q => ?_
    obtain ⟨x, x1, x2, x3, x4, x5⟩ := pi.sf (a + n) hn q
    have ax : a ≤ x := by
      rcases ha with rfl | ha
      · omega
      · rcases Nat.lt_or_ge x a with c | c
        · exact absurd ha ((pi.sg x (by omega) x4).2 a (by omega) (by omega))
        · exact c
    rw [te_last (n + 1) ax (by omega) x4 (fun j j1 j2 => x5 j j1 (by omega))] at h
    omega
  · intro h
    rcases te_cases bs a (n + 1) with q | ⟨q, q1, q2, q3, q4⟩
    · omega
    · rw [q4]
      rcases Nat.lt_or_ge (a + n) (q + tagL bs q) with c | c
      · exact absurd h ((pi.sg q (by omega) q3).2 (a + n) (by omega) c)
      · exact c
theorem te_le {bs : List Nat} {T' : CT} {K : KT} (pi : PI bs bs.length T' K) {a : Nat} (ha : a ≤ bs.length) : ∀ n, a + n ≤ bs.length → te bs a n ≤ bs.length := by
  intro n hn
  rcases te_cases bs a n with q | ⟨q, q1, q2, q3, q4⟩
  · omega
  · rw [q4]; exact (pi.sg q (by omega) q3).1
theorem b60 {bs : List Nat} {i : Nat} (h : i < bs.length) : bs.getD i 0 = 60 ↔ bs[i]? = some 60 := by
  rw [gD h, List.getElem?_eq_getElem h]
  simp
theorem seg_cons {bs : List Nat} {o n : Nat} (h : bs[o]? = some 60) (hn : 1 ≤ n) : seg bs o n = 60 :: seg bs (o + 1) (n - 1) := by
  unfold seg
  obtain ⟨m, rfl⟩ : ∃ m, n = m + 1 := ⟨n - 1, by omega⟩
  rw [List.range_succ_eq_map, List.map_cons, List.map_map, Nat.add_sub_cancel]
  have e0 : bs.getD (o + 0) 0 = 60 := gDo h
  rw [e0]
  congr 1
  exact List.map_congr_left (fun i _ => by show bs.getD (o + (i + 1)) 0 = _; rw [show o + (i + 1) = o + 1 + i by omega])
section
variable {L d : Nat} {Z : zS} {t : Nat} {bs : List Nat} {T T' : CT} {K : KT} {pf pl o g : List Nat}
theorem zO_86 : (zO Z o g).1 86 = o.map nI := rfl
theorem zO_89 : (zO Z o g).1 89 = g.map nI := rfl
theorem zO_o {r : Nat} (h1 : r ≠ 86) (h2 : r ≠ 89) : (zO Z o g).1 r = Z.1 r := by
  unfold zO
  simp only
  rw [if_neg h1, if_neg h2]
theorem zO_s86 (x : List Nat) : zrs (zO Z o g) 86 (x.map nI) = zO Z x g := by
  refine Prod.ext (funext fun r => ?_) rfl
  show va_up _ _ _ r = _
  unfold va_up zO
  simp only
  by_cases h : r = 86
  · rw [if_pos h, if_pos h]
  · rw [if_neg h, if_neg h, if_neg h]
theorem zO_s89 (x : List Nat) : zrs (zO Z o g) 89 (x.map nI) = zO Z o x := by
  refine Prod.ext (funext fun r => ?_) rfl
  show va_up _ _ _ r = _
  unfold va_up zO
  simp only
  by_cases h : r = 89
  · subst h; rfl
  · rw [if_neg h, if_neg h, if_neg h]
theorem o86 {v : Nat} (h : o.length < 4539) : zden L (d + 2) 61 [.ref 86, .int (nI v)] (zO Z o g) = some (0, zO Z (o ++ [v]) g) := by
  rw [N61 rfl, zO_86, show zmo 86 = 4539 from rfl, zadd_map h, zO_s86]
theorem ob (cx : CX Z t bs T T' K pf pl) {i : Nat} (hi : i < bs.length) : zden L (d + 1) 56 [.ref (t + 1), .int (nI i)] (zO Z o g) = some (nI (bs.getD i 0), zO Z o g) := by
  have r := cx.rw 0 (by omega)
  have len := cx.tx.len
  rw [N56 (W6_0 cx.it).1, zO_o (by rcases cx.it with e | e <;> omega) (by rcases cx.it with e | e <;> omega), r, cx.tx.e0, zget_map hi (by omega)]
theorem oP0 (cx : CX Z t bs T T' K pf pl) : (O2 L).2.1 (zO Z o g) 4 1 0 = some t := (J4_0 _).trans (congrArg some cx.p0)
theorem oS (cx : CX Z t bs T T' K pf pl) {k : Nat} (hk : k < pf.length) : zden L (d + 2) 8 [.ref 4, .int (nI k)] (zO Z o g) = some (nI (pS K pf k), zO Z o g) := by
  have W300 := cx.tx.W300
  have pcl := cx.pc.2 k hk
  have r := cx.rw 1 (by omega)
  have b := cx.tx.wb (pf.getD k 0) (by omega)
  have fl : pf.length < 2 ^ 31 := by
    rcases Nat.lt_or_ge pf.length (2 ^ 31) with c | c
    · exact c
    · have h := fun j hj => plc_lt cx.pc (k := 0) (k' := j) hj
      exfalso
      have grow : ∀ j, j < pf.length → j ≤ pf.getD j 0 := by
        intro j
        induction j with
        | zero => intro _; exact Nat.zero_le _
        | succ j ih =>
          intro hj
          have h1 := ih (by omega)
          have h2 := (cx.pc.2 j (by omega)).2.2 hj
          have h3 := (cx.pc.2 j (by omega)).1
          omega
      have h1 := grow 1000 (by omega)
      have h2 := (cx.pc.2 1000 (by omega))
      omega
  rw [N8 _ _ ob4, B8_0, oP0 cx, Option.bind_some, R6_1 cx.it, Option.bind_some, J4_5, Option.bind_some, N56 rfl, Option.bind_some, zO_o (by omega) (by omega), cx.e56, zget_map hk fl, N56 (W6_1 cx.it).1, Option.bind_some, zO_o (by rcases cx.it with e | e <;> omega) (by rcases cx.it with e | e <;> omega), r, zget_map (by omega) (by omega), b.2.2.1]
  rfl
theorem pfl (cx : CX Z t bs T T' K pf pl) : pf.length ≤ 300 := by
  have W300 := cx.tx.W300
  rcases Nat.lt_or_ge 300 pf.length with c | c
  · exfalso
    have grow : ∀ j, j < pf.length → j ≤ pf.getD j 0 := by
      intro j
      induction j with
      | zero => intro _; exact Nat.zero_le _
      | succ j ih =>
        intro hj
        have h1 := ih (by omega)
        have h2 := (cx.pc.2 j (by omega)).2.2 hj
        have h3 := (cx.pc.2 j (by omega)).1
        omega
    have h1 := grow 300 c
    have h2 := cx.pc.2 300 c
    omega
  · exact c
theorem oE (cx : CX Z t bs T T' K pf pl) {k : Nat} (hk : k < pf.length) : zden L (d + 2) 9 [.ref 4, .int (nI k)] (zO Z o g) = some (nI (pE K pl k), zO Z o g) := by
  have W300 := cx.tx.W300
  have pcl := cx.pc.2 k hk
  have ll := cx.pc.1
  have fl := pfl cx
  have r := cx.rw 2 (by omega)
  have l2 := cx.tx.l2
  have b := cx.tx.wb (pl.getD k 0) (by omega)
  rw [N9 _ _ ob4, B9_0, oP0 cx, Option.bind_some, R6_2 cx.it, Option.bind_some, J4_6, Option.bind_some, N56 rfl, Option.bind_some, zO_o (by omega) (by omega), cx.e58, zget_map (by omega) (by omega), N56 (W6_2 cx.it).1, Option.bind_some, zO_o (by rcases cx.it with e | e <;> omega) (by rcases cx.it with e | e <;> omega), r, zget_map (by omega) (by omega), b.2.2.2.1]
  rfl
theorem o34 (b n : Bool) (h : o.length < 4539) : zden L (d + 3) 34 [.ref 85, .int (bI b), .int (bI n)] (zO Z o g) = some (0, zO Z (o ++ mkB b n) g) := by
  rw [N34 _ _ _ ob85, B34_0]
  cases b <;> cases n
  · rw [if_pos rfl, B34_23]; unfold mkB; rw [if_pos rfl, List.append_nil]
  · rw [if_neg (show ¬ bI false = bI true from by decide), B34_5, J85_0, Option.bind_some, if_neg (show ¬ bI true = nI 0 from by decide), B34_13, B34_20, o86 h, Option.bind_some, B34_23]; rfl
  · rw [if_neg (show ¬ bI true = bI false from by decide), B34_5, J85_0, Option.bind_some, if_pos (show bI false = nI 0 from rfl), B34_18, B34_20, o86 h, Option.bind_some, B34_23]; rfl
  · rw [if_pos rfl, B34_23]; unfold mkB; rw [if_pos rfl, List.append_nil]
theorem o68 (cx : CX Z t bs T T' K pf pl) {q : Nat} (hq : q ≤ 5000) : zden L (d + 3) 68 [.ref (t + 1), .int (nI q)] (zO Z o g) = some (nI (tagL bs q), zO Z o g) := by
  have r := cx.rw 0 (by omega)
  exact c68 (W6_0 cx.it).1 (by rw [zO_o (by rcases cx.it with e | e <;> omega) (by rcases cx.it with e | e <;> omega), r, cx.tx.e0]) cx.bb hq
theorem o36 (cx : CX Z t bs T T' K pf pl) {q : Nat} (hq : tagB bs q = true) (h : o.length + (tagL bs q - 1) ≤ 4539) : zden L (d + 4) 36 [.ref 85, .ref (t + 1), .int (nI q)] (zO Z o g) = some (0, zO Z (o ++ seg bs (q + 1) (tagL bs q - 1)) g) := by
  have len := cx.tx.len
  obtain ⟨l3, l11, lin, l10, no⟩ := tag_in hq
  have loop : ∀ (r i : Nat), i + r = tagL bs q - 1 → xruns (O2 L) (zden L (d + 3)) 36 9 [.ref 85, .ref (t + 1), .int (nI q), .int (nI (tagL bs q)), .int (nI (i + 1))] [] (zO Z (o ++ seg bs (q + 1) i) g) = some (0, zO Z (o ++ seg bs (q + 1) (tagL bs q - 1)) g) := by
    intro r
    induction r with
    | zero =>
      intro i hi
      have : i = tagL bs q - 1 := by omega
      subst this
      rw [B36_9, iL (by omega) (by omega), if_pos (by omega), B36_36]
    | succ r ih =>
      intro i hi
      have sl := seg_len bs (q + 1) i
      rw [B36_9, iL (by omega) (by omega), if_neg (by omega), B36_15, J85_0, Option.bind_some, nI_add, ob cx (by omega), Option.bind_some, o86 (by rw [List.length_append, sl]; omega), Option.bind_some, nI_add, List.append_assoc, show q + (i + 1) = q + 1 + i by omega, ← seg_succ]
      exact ih (i + 1) (by omega)
  rw [N36 _ _ _ ob85, B36_0, o68 cx (by omega), Option.bind_some]
  have := loop (tagL bs q - 1) 0 (by omega)
  rw [show o ++ seg bs (q + 1) 0 = o from List.append_nil o] at this
  exact this
theorem o70 (cx : CX Z t bs T T' K pf pl) {i : Nat} (hi : i < bs.length) : zden L (d + 3) 70 [.ref 88, .ref (t + 1), .int (nI i)] (zO Z o (stk bs i)) = some (bI (opT bs i (stk bs i)).1, zO Z o (opT bs i (stk bs i)).2) := by
  have r := cx.rw 0 (by omega)
  have len := cx.tx.len
  obtain ⟨s1, s2, s3⟩ := cx.pi.so i (by omega)
  rw [c70 (g := 88) (Or.inr (Or.inl rfl)) (W6_0 cx.it).1 (by rw [zO_o (by rcases cx.it with e | e <;> omega) (by rcases cx.it with e | e <;> omega), r, cx.tx.e0]) cx.bb (op := stk bs i) zO_89 s2 (fun x hx => by have := (s3 x hx).1; omega) (by omega)]
  show some (_, zrs _ 89 _) = _
  rw [zO_s89]
theorem stk_step {bs : List Nat} {i : Nat} (h : bs[i]? = some 60) : stk bs (i + 1) = (opT bs i (stk bs i)).2 := by
  show (if bs[i]? = some 60 then _ else _) = _
  rw [if_pos h]
theorem stk_no {bs : List Nat} {i : Nat} (h : bs[i]? ≠ some 60) : stk bs (i + 1) = stk bs i := by
  show (if bs[i]? = some 60 then _ else _) = _
  rw [if_neg h]
theorem o32 (cx : CX Z t bs T T' K pf pl) {a : Nat} (ha : a ≤ bs.length) (h : o.length + 80 ≤ 4539) : zden L (d + 5) 32 [.ref 85, .ref (t + 1), .int (nI a)] (zO Z o g) = some (0, zO Z (o ++ opnN bs (stk bs a) (stk bs a).length) (stk bs a)) := by
  have len := cx.tx.len
  obtain ⟨s1, s2, s3⟩ := cx.pi.so a ha
  have t10 : ∀ x ∈ stk bs a, tagL bs x ≤ 10 := fun x hx => (tag_in (s1 x hx).1).2.2.2.1 (s1 x hx).2
  have loop : ∀ (r i : Nat), i + r = a → xruns (O2 L) (zden L (d + 4)) 32 12 [.ref 85, .ref (t + 1), .int (nI a), .int (nI i)] [] (zO Z o (stk bs i)) = xruns (O2 L) (zden L (d + 4)) 32 45 [.ref 85, .ref (t + 1), .int (nI a), .int (nI 0)] [] (zO Z o (stk bs a)) := by
    intro r
    induction r with
    | zero =>
      intro i hi
      have : i = a := by omega
      subst this
      rw [B32_12, if_pos (nI_le (Nat.le_refl _) (by omega)), B32_43]
    | succ r ih =>
      intro i hi
      have bi := cx.bb.1 (bs.getD i 0) (by rw [gD (show i < bs.length by omega)]; exact List.getElem_mem _)
      rw [B32_12, iL (by omega) (by omega), if_neg (by omega), B32_17, ob cx (by omega), Option.bind_some, iE (by omega) (by omega)]
      by_cases c : bs.getD i 0 = 60
      · have c' := (b60 (show i < bs.length by omega)).mp c
        rw [if_pos c, B32_27, J85_1, Option.bind_some, o70 cx (by omega), Option.bind_some, B32_37, nI_add, ← stk_step c']
        exact ih (i + 1) (by omega)
      · have c' := fun w => c ((b60 (show i < bs.length by omega)).mpr w)
        rw [if_neg c, B32_37, nI_add, ← stk_no c']
        exact ih (i + 1) (by omega)
  have put : ∀ (r k : Nat), k + r = (stk bs a).length → xruns (O2 L) (zden L (d + 4)) 32 45 [.ref 85, .ref (t + 1), .int (nI a), .int (nI k)] [] (zO Z (o ++ opnN bs (stk bs a) k) (stk bs a)) = some (0, zO Z (o ++ opnN bs (stk bs a) (stk bs a).length) (stk bs a)) := by
    intro r
    induction r with
    | zero =>
      intro k hk
      have : k = (stk bs a).length := by omega
      subst this
      rw [B32_45, J85_1, Option.bind_some, R5_0 (Or.inr (Or.inl rfl)), Option.bind_some, N55 rfl, Option.bind_some, zO_89, List.length_map, if_pos (nI_le (Nat.le_refl _) (by omega)), B32_90]
    | succ r ih =>
      intro k hk
      have kl : k < (stk bs a).length := by omega
      have mem : (stk bs a).getD k 0 ∈ stk bs a := by rw [gD kl]; exact List.getElem_mem kl
      have ol := opnN_len t10 k (by omega)
      have tb := s1 _ mem
      have b6 := (s3 _ mem).2
      have l3 := (tag_in tb.1).1
      have tl := t10 _ mem
      have eq : opnN bs (stk bs a) (k + 1) = opnN bs (stk bs a) k ++ ([60] ++ seg bs ((stk bs a).getD k 0 + 1) (tagL bs ((stk bs a).getD k 0) - 1)) := by
        show opnN bs (stk bs a) k ++ seg bs ((stk bs a).getD k 0) (tagL bs ((stk bs a).getD k 0)) = _
        rw [seg_cons b6 (by omega)]; rfl
      have i0 := ih (k + 1) (by omega)
      rw [eq, ← List.append_assoc, ← List.append_assoc] at i0
      rw [B32_45, J85_1, Option.bind_some, R5_0 (Or.inr (Or.inl rfl)), Option.bind_some, N55 rfl, Option.bind_some, zO_89, List.length_map, iL (by omega) (by omega), if_neg (by omega), B32_59, J85_0, Option.bind_some, o86 (by rw [List.length_append]; omega), Option.bind_some, J85_1, Option.bind_some, R5_0 (Or.inr (Or.inl rfl)), Option.bind_some, N56 rfl, Option.bind_some, zO_89, zget_map kl (by omega), o36 cx tb.1 (by rw [List.length_append, List.length_append]; simp only [List.length_cons, List.length_nil]; omega), Option.bind_some, nI_add]
      exact i0
  rw [N32 _ _ _ ob85, B32_0, J85_1, Option.bind_some, R5_0 (Or.inr (Or.inl rfl)), Option.bind_some, N63 rfl, Option.bind_some, show ([] : List Int32) = ([] : List Nat).map nI from rfl]
  show xruns _ _ _ _ _ _ (zrs _ 89 _) = _
  rw [zO_s89]
  have l0 := loop a 0 (by omega)
  have p0 := put (stk bs a).length 0 (by omega)
  rw [show o ++ opnN bs (stk bs a) 0 = o from List.append_nil o] at p0
  exact l0.trans p0
theorem o35 (cx : CX Z t bs T T' K pf pl) {a : Nat} (ha : a ≤ bs.length) (h : o.length + 88 ≤ 4539) : zden L (d + 5) 35 [.ref 85, .ref (t + 1)] (zO Z o (stk bs a)) = some (0, zO Z (o ++ clsN bs (stk bs a) (stk bs a).length) (stk bs a)) := by
  have len := cx.tx.len
  obtain ⟨s1, s2, s3⟩ := cx.pi.so a ha
  have t10 : ∀ x ∈ stk bs a, tagL bs x ≤ 10 := fun x hx => (tag_in (s1 x hx).1).2.2.2.1 (s1 x hx).2
  have done : ∀ x2 : Int32, x2 < nI 0 → xruns (O2 L) (zden L (d + 4)) 35 13 [.ref 85, .ref (t + 1), .int x2] [] (zO Z (o ++ clsN bs (stk bs a) (stk bs a).length) (stk bs a)) = some (0, zO Z (o ++ clsN bs (stk bs a) (stk bs a).length) (stk bs a)) := fun x2 hx => by
    rw [B35_13, if_pos hx, B35_57]
  have loop : ∀ (r k : Nat), k + (r + 1) = (stk bs a).length → xruns (O2 L) (zden L (d + 4)) 35 13 [.ref 85, .ref (t + 1), .int (nI r)] [] (zO Z (o ++ clsN bs (stk bs a) k) (stk bs a)) = some (0, zO Z (o ++ clsN bs (stk bs a) (stk bs a).length) (stk bs a)) := by
    intro r
    induction r with
    | zero =>
      intro k hk
      have kl : (stk bs a).length - 1 - k < (stk bs a).length := by omega
      have mem : (stk bs a).getD ((stk bs a).length - 1 - k) 0 ∈ stk bs a := by rw [gD kl]; exact List.getElem_mem kl
      have ol := clsN_len t10 k (by omega)
      have tb := s1 _ mem
      have eq : clsN bs (stk bs a) (k + 1) = clsN bs (stk bs a) k ++ ([60] ++ ([47] ++ seg bs ((stk bs a).getD ((stk bs a).length - 1 - k) 0 + 1) (tagL bs ((stk bs a).getD ((stk bs a).length - 1 - k) 0) - 1))) := rfl
      have d0 := done (nI 0 + (-1)) (by decide)
      rw [show clsN bs (stk bs a) (stk bs a).length = clsN bs (stk bs a) (k + 1) from by rw [show (stk bs a).length = k + 1 by omega], eq, ← List.append_assoc, ← List.append_assoc, ← List.append_assoc, show (stk bs a).length - 1 - k = 0 by omega] at d0
      rw [show (stk bs a).length - 1 - k = 0 by omega] at tb mem
      have tl := t10 _ mem
      rw [show clsN bs (stk bs a) (stk bs a).length = clsN bs (stk bs a) (k + 1) from by rw [show (stk bs a).length = k + 1 by omega], eq, ← List.append_assoc, ← List.append_assoc, ← List.append_assoc, show (stk bs a).length - 1 - k = 0 by omega]
      rw [B35_13, if_neg (by decide), B35_17, J85_0, Option.bind_some, o86 (by rw [List.length_append]; omega), Option.bind_some, J85_0, Option.bind_some, o86 (by rw [List.length_append, List.length_append]; simp only [List.length_cons, List.length_nil]; omega), Option.bind_some, J85_1, Option.bind_some, R5_0 (Or.inr (Or.inl rfl)), Option.bind_some, N56 rfl, Option.bind_some, zO_89, zget_map (show 0 < (stk bs a).length by omega) (by omega), o36 cx tb.1 (by rw [List.length_append, List.length_append, List.length_append]; simp only [List.length_cons, List.length_nil]; omega), Option.bind_some]
      exact d0
    | succ r ih =>
      intro k hk
      have kl : (stk bs a).length - 1 - k < (stk bs a).length := by omega
      have mem : (stk bs a).getD ((stk bs a).length - 1 - k) 0 ∈ stk bs a := by rw [gD kl]; exact List.getElem_mem kl
      have ol := clsN_len t10 k (by omega)
      have tb := s1 _ mem
      have eq : clsN bs (stk bs a) (k + 1) = clsN bs (stk bs a) k ++ ([60] ++ ([47] ++ seg bs ((stk bs a).getD ((stk bs a).length - 1 - k) 0 + 1) (tagL bs ((stk bs a).getD ((stk bs a).length - 1 - k) 0) - 1))) := rfl
      have i0 := ih (k + 1) (by omega)
      rw [eq, ← List.append_assoc, ← List.append_assoc, ← List.append_assoc, show (stk bs a).length - 1 - k = r + 1 by omega] at i0
      rw [show (stk bs a).length - 1 - k = r + 1 by omega] at tb mem
      have tl := t10 _ mem
      rw [B35_13, if_neg (nI_p0 (by omega)), B35_17, J85_0, Option.bind_some, o86 (by rw [List.length_append]; omega), Option.bind_some, J85_0, Option.bind_some, o86 (by rw [List.length_append, List.length_append]; simp only [List.length_cons, List.length_nil]; omega), Option.bind_some, J85_1, Option.bind_some, R5_0 (Or.inr (Or.inl rfl)), Option.bind_some, N56 rfl, Option.bind_some, zO_89, zget_map (show r + 1 < (stk bs a).length by omega) (by omega), o36 cx tb.1 (by rw [List.length_append, List.length_append, List.length_append]; simp only [List.length_cons, List.length_nil]; omega), Option.bind_some, nI_m1 (by omega), Nat.add_sub_cancel]
      exact i0
  rw [N35 _ _ ob85, B35_0, J85_1, Option.bind_some, R5_0 (Or.inr (Or.inl rfl)), Option.bind_some, N55 rfl, Option.bind_some, zO_89, List.length_map]
  by_cases c : (stk bs a).length = 0
  · have d0 := done (nI 0 - nI 1) (by decide)
    rw [c] at d0 ⊢
    rw [show o ++ clsN bs (stk bs a) 0 = o from List.append_nil o] at d0 ⊢
    exact d0
  · have l0 := loop ((stk bs a).length - 1) 0 (by omega)
    rw [show o ++ clsN bs (stk bs a) 0 = o from List.append_nil o] at l0
    rw [pk_sub (by omega)]
    exact l0
end
