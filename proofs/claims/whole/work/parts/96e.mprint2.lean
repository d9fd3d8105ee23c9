/-! PRINT: the reference, putOut -/
/-- what placeOf answers -/
def plI (K : KT) (pf pl : List Nat) (s : Nat) : Int32 := match (List.range pf.length).find? (fun k => decide (inP K pf pl s k)) with
  | some k => nI (pf.getD k 0)
  | none => -1
theorem plI_cases (K : KT) (pf pl : List Nat) (s : Nat) : (own K pf pl s = false ∧ plI K pf pl s = -1) ∨ ∃ k, k < pf.length ∧ inP K pf pl s k ∧ own K pf pl s = true ∧ plI K pf pl s = nI (pf.getD k 0) := by
  unfold plI
  cases h : (List.range pf.length).find? (fun k => decide (inP K pf pl s k)) with
  | none =>
    refine Or.inl ⟨?_, rfl⟩
    unfold own
    rw [List.any_eq_false]
    intro k hk q
    exact (List.find?_eq_none.mp h) k hk q
  | some k =>
    have h1 := List.mem_range.mp (List.mem_of_find?_eq_some h)
    have h2' := List.find?_some (p := fun k => decide (inP K pf pl s k)) h
    have h2 : inP K pf pl s k := of_decide_eq_true h2'
    exact Or.inr ⟨k, h1, h2, own_iff.mpr ⟨k, h1, h2⟩, rfl⟩
theorem oB_sign {bs : List Nat} {lt : Nat → Bool} {a i : Nat} {v : Bool} : ∀ m, (∀ j, j < m + 1 → lt (a + i + j) = v) → oB bs lt a (i + (m + 1)) = oB bs lt a i ++ (mkB (prvL lt a i) v ++ seg bs (a + i) (m + 1)) := by
  intro m
  induction m with
  | zero =>
    intro h
    show oB bs lt a i ++ (mkB (prvL lt a i) (lt (a + i)) ++ [bs.getD (a + i) 0]) = _
    rw [show lt (a + i) = v from h 0 (by omega)]
    rfl
  | succ m ih =>
    intro h
    have i0 := ih (fun j hj => h j (by omega))
    show oB bs lt a (i + (m + 1)) ++ (mkB (prvL lt a (i + (m + 1))) (lt (a + (i + (m + 1)))) ++ [bs.getD (a + (i + (m + 1))) 0]) = _
    have h1 : prvL lt a (i + (m + 1)) = v := by
      unfold prvL
      rw [decide_eq_true (by omega), Bool.true_and, show a + (i + (m + 1)) - 1 = a + i + m by omega]
      exact h m (by omega)
    have h2 : lt (a + (i + (m + 1))) = v := by
      rw [show a + (i + (m + 1)) = a + i + (m + 1) by omega]
      exact h (m + 1) (by omega)
    rw [h1, h2, i0, seg_succ bs (a + i) (m + 1), show mkB v v = [] from if_pos rfl, show a + (i + (m + 1)) = a + i + (m + 1) by omega]
    simp only [List.append_assoc, List.nil_append]
def pend (lt : Nat → Bool) (a b i : Nat) : List Nat := if (prvL lt a i && !(decide (a + i < b) && lt (a + i))) = true then [93] else []
theorem pend_len (lt : Nat → Bool) (a b i : Nat) : (pend lt a b i).length ≤ 1 := by
  unfold pend
  split <;> simp
section
variable {L d : Nat} {z : zS} {bs : List Nat} {Q : CT} {S : Option Sem} {lim : Nat} {F : Nat → Int32} {J : Nat → Nat → Int32} {R : Nat → List Nat} {l o : List Nat} {T' : CT}
theorem m159' (px : PX bs Q S lim F R T') {s : Nat} (hs : s < (kread bs 139).length) : zden L (d + 2) 159 [.ref 136, .int (nI s)] (MO z F J R l o) = some (plI (kread bs) (pfZ bs Q S lim) (plZ bs Q S lim) s, MO z F J R l o) := by
  obtain ⟨h1, h2⟩ := m159 (L := L) (d := d) (z := z) (J := J) (l := l) (o := o) px hs
  rcases plI_cases (kread bs) (pfZ bs Q S lim) (plZ bs Q S lim) s with ⟨a1, a2⟩ | ⟨k, a1, a2, a3, a4⟩
  · rw [h2 a1, a2]
  · rw [h1 k a1 a2, a4]
theorem rOp {k : Nat} (h : k < l.length) (h9 : k < 9) : (O2 L).2.2.2.2.2.1 (MO z F J R l o) 0 189 (nI k) = some (nI (l.getD k 0)) := by
  unfold MO
  rw [L189 (by rw [Rl_189]; exact h) h9, Rl_189]
/-- bytes are said -/
theorem say_bytes (px : PX bs Q S lim F R T') {p : Nat} (x1 x2 x3 : Int32) (s : Nat) (x6 x7 : Int32) (v8 : Value) (hs : s < (kread bs 139).length) : ∀ (r m : Nat) (o : List Nat), p + m + r = enK (kread bs) s → o.length + r ≤ 6000 → xruns (O2 L) (zden L (d + 2)) 160 200 [.ref 136, .int x1, .int x2, .int x3, .int (nI s), .int (nI (p + m)), .int x6, .int x7, v8] [] (MO z F J R l o) = xruns (O2 L) (zden L (d + 2)) 160 229 [.ref 136, .int x1, .int x2, .int x3, .int (nI s), .int (nI (enK (kread bs) s)), .int x6, .int x7, v8] [] (MO z F J R l (o ++ seg bs (p + m) r)) := by
  have len := (txr px.gx.bb px.gx.rd).len
  have eb := (px.pi.sb s hs).2
  intro r
  induction r with
  | zero =>
    intro m o hm ho
    rw [B160_200, J136_7, Option.bind_some, rEn px hs, Option.bind_some, iL (by omega) (by omega), if_pos (by omega), show p + m = enK (kread bs) s by omega, show seg bs (enK (kread bs) s) 0 = [] from rfl, List.append_nil]
  | succ r ih =>
    intro m o hm ho
    have i0 := ih (m + 1) (o ++ [bs.getD (p + m) 0]) (by omega) (by rw [List.length_append]; simp only [List.length_cons, List.length_nil]; omega)
    have es : seg bs (p + m) (r + 1) = bs.getD (p + m) 0 :: seg bs (p + (m + 1)) r := by
      unfold seg
      rw [List.range_succ_eq_map, List.map_cons, List.map_map]
      congr 1
      exact List.map_congr_left (fun i _ => by show bs.getD (p + m + (i + 1)) 0 = bs.getD (p + (m + 1) + i) 0; congr 1; omega)
    rw [B160_200, J136_7, Option.bind_some, rEn px hs, Option.bind_some, iL (by omega) (by omega), if_neg (by omega), B160_212, J136_2, Option.bind_some, qB px (by omega), Option.bind_some, m157 (by omega), Option.bind_some, nI_add, es]
    rw [List.append_assoc] at i0
    exact i0
/-- whether the row goes on behind sign s -/
theorem m160_on (px : PX bs Q S lim F R T') {a b s : Nat} (hb : b ≤ bs.length) (hs : s < (kread bs 139).length) (x3 x5 x6 x7 : Int32) (v8 : Value) : ∃ g : Bool, xruns (O2 L) (zden L (d + 2)) 160 229 [.ref 136, .int (nI a), .int (nI b), .int x3, .int (nI s), .int x5, .int x6, .int x7, v8] [] (MO z F J R l o) = xruns (O2 L) (zden L (d + 2)) 160 278 [.ref 136, .int (nI a), .int (nI b), .int x3, .int (nI (s + 1)), .int x5, .int x6, .int x7, v8] [.int (bI g)] (MO z F J R l o) ∧ (g = true ↔ s + 1 < (kread bs 139).length ∧ atK (kread bs) (s + 1) < b ∧ tgS (kread bs) (s + 1) = 0 ∧ plI (kread bs) (pfZ bs Q S lim) (plZ bs Q S lim) (s + 1) = x6) := by
  have tx := txr px.gx.bb px.gx.rd
  have len := tx.len
  have k139 := tx.k139
  rw [B160_229, q4 px, Option.bind_some, nI_add, iL (by omega) (by omega)]
  by_cases c1 : (kread bs 139).length ≤ s + 1
  · refine ⟨false, ?_, (fun q => by cases q), fun q => by omega⟩
    rw [if_pos c1, B160_277]
    rfl
  have sb := px.pi.sb (s + 1) (by omega)
  have tl := tgS_le (bs := bs) (s + 1)
  rw [if_neg c1, B160_241, J136_6, Option.bind_some, rAt px (by omega), Option.bind_some, iL (by omega) (by omega)]
  by_cases c2 : b ≤ atK (kread bs) (s + 1)
  · refine ⟨false, ?_, (fun q => by cases q), fun q => by omega⟩
    rw [if_pos c2, B160_277]
    rfl
  rw [if_neg c2, B160_252, J136_8, Option.bind_some, rTg px (by omega), Option.bind_some, iE (by omega) (by omega)]
  by_cases c3 : tgS (kread bs) (s + 1) = 0
  · rw [if_pos c3, B160_262, m159' px (by omega), Option.bind_some]
    by_cases c4 : plI (kread bs) (pfZ bs Q S lim) (plZ bs Q S lim) (s + 1) = x6
    · refine ⟨true, ?_, fun _ => ⟨by omega, by omega, c3, c4⟩, fun _ => rfl⟩
      rw [if_pos c4, B160_273]
      rfl
    · refine ⟨false, ?_, (fun q => by cases q), fun q => absurd q.2.2.2 c4⟩
      rw [if_neg c4, B160_277]
      rfl
  · refine ⟨false, ?_, (fun q => by cases q), fun q => absurd q.2.2.1 c3⟩
    rw [if_neg c3, B160_277]
    rfl
/-- no sign lies there -/
theorem no_sign {K : KT} {p : Nat} (pi : PI bs bs.length T' K) {s i : Nat} (h1 : ∀ s', s' < s → s' < (K 139).length → enK K s' ≤ i) (h2 : ∀ s', s ≤ s' → s' < (K 139).length → i < atK K s') : ¬ inS K i := by
  rintro ⟨s', q1, q2, q3⟩
  rcases Nat.lt_or_ge s' s with c | c
  · have := h1 s' c q1; omega
  · have := h2 s' c q1; omega
/-- whether a row begins at sign s, that lies in place k -/
theorem m160_first (px : PX bs Q S lim F R T') {a b i s k : Nat} (hs : s < (kread bs 139).length) (hat : a + i = atK (kread bs) s) (ha : a = 0 ∨ ∃ s, s < (kread bs 139).length ∧ a = atK (kread bs) s) (hk : k < (pfZ bs Q S lim).length) (hp : inP (kread bs) (pfZ bs Q S lim) (plZ bs Q S lim) s k) (x3 : Int32) (v7 v8 : Value) : xruns (O2 L) (zden L (d + 2)) 160 141 [.ref 136, .int (nI a), .int (nI b), .int x3, .int (nI s), .int (nI (a + i)), .int (nI ((pfZ bs Q S lim).getD k 0)), v7, v8] [] (MO z F J R l o) = xruns (O2 L) (zden L (d + 2)) 160 187 [.ref 136, .int (nI a), .int (nI b), .int x3, .int (nI s), .int (nI (a + i)), .int (nI ((pfZ bs Q S lim).getD k 0)), v7, v8] [.int (bI (!prvL (litZ (kread bs) (pfZ bs Q S lim) (plZ bs Q S lim)) a i))] (MO z F J R l o) := by
  have tx := txr px.gx.bb px.gx.rd
  have len := tx.len
  have k139 := tx.k139
  have W300 := tx.W300
  have pc := plcZ (lim := lim) px.gx.bb px.gx.rd px.gx.qo
  have sbs := px.pi.sb s hs
  have after : ∀ s', s ≤ s' → s' < (kread bs 139).length → atK (kread bs) s ≤ atK (kread bs) s' := fun s' h1 h2 => by
    by_cases c : s = s'
    · rw [c]; exact Nat.le_refl _
    · have := sgn_lt px.pi (show s < s' by omega) h2
      omega
  -- nothing is lit ahead
  have yes : prvL (litZ (kread bs) (pfZ bs Q S lim) (plZ bs Q S lim)) a i = false → xruns (O2 L) (zden L (d + 2)) 160 182 [.ref 136, .int (nI a), .int (nI b), .int x3, .int (nI s), .int (nI (a + i)), .int (nI ((pfZ bs Q S lim).getD k 0)), v7, v8] [] (MO z F J R l o) = xruns (O2 L) (zden L (d + 2)) 160 187 [.ref 136, .int (nI a), .int (nI b), .int x3, .int (nI s), .int (nI (a + i)), .int (nI ((pfZ bs Q S lim).getD k 0)), v7, v8] [.int (bI (!prvL (litZ (kread bs) (pfZ bs Q S lim) (plZ bs Q S lim)) a i))] (MO z F J R l o) := fun e => by
    rw [e, B160_182]; rfl
  have dark : ∀ s0, s0 ≤ s → (∀ s', s' < s0 → s' < (kread bs 139).length → enK (kread bs) s' ≤ a + i - 1) → (∀ s', s0 ≤ s' → s' < s → False) → i ≠ 0 → prvL (litZ (kread bs) (pfZ bs Q S lim) (plZ bs Q S lim)) a i = false := fun s0 h0 h1 h2 hi => by
    unfold prvL
    rw [lit_tag (no_sign (p := 0) px.pi (s := s) (fun s' q1 q2 => by
      rcases Nat.lt_or_ge s' s0 with c | c
      · exact h1 s' c q2
      · exact absurd q1 (fun w => h2 s' c w)) (fun s' q1 q2 => by have := after s' q1 q2; omega)), Bool.and_false]
  have zero : i = 0 → prvL (litZ (kread bs) (pfZ bs Q S lim) (plZ bs Q S lim)) a i = false := fun e => by rw [e]; rfl
  rw [B160_141, iE (by omega) (by omega)]
  by_cases s0 : s = 0
  · rw [if_pos s0]
    refine yes ?_
    by_cases i0 : i = 0
    · exact zero i0
    · exact dark 0 (by omega) (fun s' q => by omega) (fun s' _ q => by omega) i0
  have sb1 := px.pi.sb (s - 1) (by omega)
  have sc1 := px.pi.sc (s - 1) (by omega)
  rw [show s - 1 + 1 = s by omega] at sc1
  have upto : ∀ s', s' < s → enK (kread bs) s' ≤ enK (kread bs) (s - 1) := fun s' h1 => by
    by_cases c : s' = s - 1
    · rw [c]; exact Nat.le_refl _
    · have := sgn_lt px.pi (show s' < s - 1 by omega) (by omega)
      omega
  rw [if_neg s0, B160_146, J136_6, Option.bind_some, pk_sub (by omega), rAt px (by omega), Option.bind_some, iT (by omega) (by omega)]
  by_cases c1 : atK (kread bs) (s - 1) < a
  · rw [if_pos c1]
    refine yes ?_
    by_cases i0 : i = 0
    · exact zero i0
    · refine dark s (Nat.le_refl _) (fun s' q1 q2 => ?_) (fun s' q1 q2 => by omega) i0
      have h1 := upto s' q1
      have h2 : enK (kread bs) (s - 1) ≤ a := by
        rcases ha with e | ⟨s2, e1, e2⟩
        · omega
        · have lt : s - 1 < s2 := by
            rcases Nat.lt_or_ge (s - 1) s2 with c | c
            · exact c
            · exfalso
              by_cases e : s2 = s - 1
              · rw [e] at e2; omega
              · have := sgn_lt px.pi (show s2 < s - 1 by omega) (by omega)
                have := (px.pi.sb s2 e1).1
                omega
          rw [e2]
          exact sgn_lt px.pi lt e1
      omega
  have tl := tgS_le (bs := bs) s
  rw [if_neg c1, B160_159, J136_8, Option.bind_some, rTg px (by omega), Option.bind_some, iE (by omega) (by omega)]
  by_cases c2 : tgS (kread bs) s = 0
  · have e1 := sc1.2.mp c2
    have i0 : i ≠ 0 := by omega
    have lp : prvL (litZ (kread bs) (pfZ bs Q S lim) (plZ bs Q S lim)) a i = own (kread bs) (pfZ bs Q S lim) (plZ bs Q S lim) (s - 1) := by
      unfold prvL
      rw [decide_eq_true i0, Bool.true_and]
      exact lit_sign px.pi (by omega) (by omega) (by omega)
    have pfl : ∀ k, k < (pfZ bs Q S lim).length → (pfZ bs Q S lim).getD k 0 < 300 := fun k hk => by
      have q := pc.2 k hk
      omega
    rw [if_pos c2, B160_169, pk_sub (by omega), m159' px (by omega), Option.bind_some]
    rcases plI_cases (kread bs) (pfZ bs Q S lim) (plZ bs Q S lim) (s - 1) with ⟨a1, a2⟩ | ⟨k', a1, a2, a3, a4⟩
    · have := pfl k hk
      rw [a2, if_neg (m1_ne (by omega))]
      exact yes (by rw [lp]; exact a1)
    · have ro := run_on px.pi tx pc (s := s - 1) (by omega) (by rw [show s - 1 + 1 = s by omega]; exact c2) a1 hk a2 (by rw [show s - 1 + 1 = s by omega]; exact hp)
      rw [a4, ro, if_pos rfl, lp, a3, B160_186]
      rfl
  · rw [if_neg c2]
    have ne : enK (kread bs) (s - 1) ≠ atK (kread bs) s := fun e => c2 (sc1.2.mpr e)
    have le := sc1.1
    refine yes ?_
    by_cases i0 : i = 0
    · exact zero i0
    · exact dark s (Nat.le_refl _) (fun s' q1 q2 => by have := upto s' q1; omega) (fun s' q1 q2 => by omega) i0
/-- one sign is put out -/
theorem m160_sign (px : PX bs Q S lim F R T') {a b i s : Nat} (hs : s < (kread bs 139).length) (hat : a + i = atK (kread bs) s) (hlt : a + i < b) (hen : enK (kread bs) s ≤ b) (hb : b ≤ bs.length) (ha : a = 0 ∨ ∃ s, s < (kread bs 139).length ∧ a = atK (kread bs) s) (cap : o.length + 3 * (b - a) + 88 ≤ 4539) (x3 : Int32) (v6 v7 v8 : Value) : ∃ v6' v7' v8', xruns (O2 L) (zden L (d + 2)) 160 128 [.ref 136, .int (nI a), .int (nI b), .int x3, .int (nI s), .int (nI (a + i)), v6, v7, v8] [] (MO z F J R l (o ++ oB bs (litZ (kread bs) (pfZ bs Q S lim) (plZ bs Q S lim)) a i ++ pend (litZ (kread bs) (pfZ bs Q S lim) (plZ bs Q S lim)) a b i)) = xruns (O2 L) (zden L (d + 2)) 160 101 [.ref 136, .int (nI a), .int (nI b), .int x3, .int (nI (s + 1)), .int (nI (enK (kread bs) s)), v6', v7', v8'] [] (MO z F J R l (o ++ oB bs (litZ (kread bs) (pfZ bs Q S lim) (plZ bs Q S lim)) a (enK (kread bs) s - a) ++ pend (litZ (kread bs) (pfZ bs Q S lim) (plZ bs Q S lim)) a b (enK (kread bs) s - a))) := by
  have tx := txr px.gx.bb px.gx.rd
  have len := tx.len
  have k139 := tx.k139
  have W300 := tx.W300
  have pc := plcZ (lim := lim) px.gx.bb px.gx.rd px.gx.qo
  have sbs := px.pi.sb s hs
  generalize hlit : litZ (kread bs) (pfZ bs Q S lim) (plZ bs Q S lim) = lt
  have lts : ∀ p, atK (kread bs) s ≤ p → p < enK (kread bs) s → lt p = own (kread bs) (pfZ bs Q S lim) (plZ bs Q S lim) s := fun p h1 h2 => by rw [← hlit]; exact lit_sign px.pi hs h1 h2
  have ol := oB_len bs lt a i
  have pl1 := pend_len lt a b i
  have ob := oB_sign (bs := bs) (lt := lt) (a := a) (i := i) (v := own (kread bs) (pfZ bs Q S lim) (plZ bs Q S lim) s) (enK (kread bs) s - (a + i) - 1) (fun j hj => lts _ (by omega) (by omega))
  rw [show i + (enK (kread bs) s - (a + i) - 1 + 1) = enK (kread bs) s - a by omega, show enK (kread bs) s - (a + i) - 1 + 1 = enK (kread bs) s - (a + i) by omega] at ob
  have pe : prvL lt a (enK (kread bs) s - a) = own (kread bs) (pfZ bs Q S lim) (plZ bs Q S lim) s := by
    unfold prvL
    rw [decide_eq_true (by omega), Bool.true_and]
    exact lts _ (by omega) (by omega)
  have pi0 : lt (a + i) = own (kread bs) (pfZ bs Q S lim) (plZ bs Q S lim) s := lts _ (by omega) (by omega)
  have e159 := m159' (L := L) (d := d) (z := z) (J := J) (l := l) (o := o ++ oB bs lt a i ++ pend lt a b i) px hs
  -- the bytes, up to the question whether it goes on
  have body : ∀ (x6 x7 : Int32) (v8 : Value) (o' : List Nat), o'.length ≤ 4539 → xruns (O2 L) (zden L (d + 2)) 160 200 [.ref 136, .int (nI a), .int (nI b), .int x3, .int (nI s), .int (nI (a + i)), .int x6, .int x7, v8] [] (MO z F J R l o') = xruns (O2 L) (zden L (d + 2)) 160 229 [.ref 136, .int (nI a), .int (nI b), .int x3, .int (nI s), .int (nI (enK (kread bs) s)), .int x6, .int x7, v8] [] (MO z F J R l (o' ++ seg bs (a + i) (enK (kread bs) s - (a + i)))) := by
    intro x6 x7 v8 o' ho'
    exact say_bytes px (p := a + i) (nI a) (nI b) x3 s x6 x7 v8 hs (enK (kread bs) s - (a + i)) 0 o' (by omega) (by omega)
  rw [B160_128, e159, Option.bind_some]
  rcases plI_cases (kread bs) (pfZ bs Q S lim) (plZ bs Q S lim) s with ⟨a1, a2⟩ | ⟨k, a1, a2, a3, a4⟩
  · -- no place
    obtain ⟨g, g1, _⟩ := m160_on (L := L) (d := d) (z := z) (J := J) (l := l) (o := o ++ oB bs lt a i ++ pend lt a b i ++ seg bs (a + i) (enK (kread bs) s - (a + i))) (a := a) px hb hs x3 (nI (enK (kread bs) s)) (-1) (nI 0) v8
    refine ⟨.int (-1), .int (nI 0), .int (bI g), ?_⟩
    rw [a2, if_pos m1_lt, B160_186, B160_187, if_pos rfl, body _ _ _ _ (by rw [List.length_append, List.length_append]; omega), g1, B160_278, if_pos m1_lt, B160_296]
    congr 1
    rw [a1] at ob pe pi0
    have e1 : pend lt a b (enK (kread bs) s - a) = [] := by unfold pend; rw [pe]; rfl
    have e2 : pend lt a b i = mkB (prvL lt a i) false := by
      unfold pend
      rw [pi0, Bool.and_false]
      cases prvL lt a i <;> rfl
    rw [e1, ob, e2]
    simp only [List.append_assoc, List.append_nil]
  · rw [a3] at ob pe pi0
    have pk : (pfZ bs Q S lim).getD k 0 < 2 ^ 31 := by have q := pc.2 k a1; omega
    have hdec : decide (a + i < b) = true := decide_eq_true hlt
    have e2 : pend lt a b i = [] := by
      unfold pend
      rw [pi0, hdec]
      cases prvL lt a i <;> rfl
    have fst := m160_first (L := L) (d := d) (z := z) (J := J) (l := l) (o := o ++ oB bs lt a i ++ pend lt a b i) (b := b) px hs hat ha a1 a2 x3 v7 v8
    rw [hlit] at fst
    rw [a4, if_neg (nI_p0 pk), fst, e2, List.append_nil, B160_187]
    -- the sign that opens
    have opn : ∃ x7, (if bI (!prvL lt a i) = nI 0 then xruns (O2 L) (zden L (d + 2)) 160 200 [.ref 136, .int (nI a), .int (nI b), .int x3, .int (nI s), .int (nI (a + i)), .int (nI ((pfZ bs Q S lim).getD k 0)), .int (bI (!prvL lt a i)), v8] [] (MO z F J R l (o ++ oB bs lt a i)) else xruns (O2 L) (zden L (d + 2)) 160 194 [.ref 136, .int (nI a), .int (nI b), .int x3, .int (nI s), .int (nI (a + i)), .int (nI ((pfZ bs Q S lim).getD k 0)), .int (bI (!prvL lt a i)), v8] [] (MO z F J R l (o ++ oB bs lt a i))) = xruns (O2 L) (zden L (d + 2)) 160 229 [.ref 136, .int (nI a), .int (nI b), .int x3, .int (nI s), .int (nI (enK (kread bs) s)), .int (nI ((pfZ bs Q S lim).getD k 0)), .int x7, v8] [] (MO z F J R l (o ++ oB bs lt a (enK (kread bs) s - a))) := by
      refine ⟨bI (!prvL lt a i), ?_⟩
      rw [ob, iB]
      cases hp : prvL lt a i
      · rw [if_pos (show (!false) = true from rfl), B160_194, m157 (by rw [List.length_append]; omega), Option.bind_some, body _ _ _ _ (by rw [List.length_append, List.length_append]; simp only [List.length_cons, List.length_nil]; omega)]
        simp only [List.append_assoc]
        rfl
      · rw [if_neg (by decide), body _ _ _ _ (by rw [List.length_append]; omega)]
        simp only [List.append_assoc]
        rfl
    obtain ⟨x7, opn⟩ := opn
    have ol' := oB_len bs lt a (enK (kread bs) s - a)
    obtain ⟨g, g1, g2⟩ := m160_on (L := L) (d := d) (z := z) (J := J) (l := l) (o := o ++ oB bs lt a (enK (kread bs) s - a)) (a := a) px hb hs x3 (nI (enK (kread bs) s)) (nI ((pfZ bs Q S lim).getD k 0)) x7 v8
    refine ⟨.int (nI ((pfZ bs Q S lim).getD k 0)), .int x7, .int (bI g), ?_⟩
    rw [opn, g1, B160_278, if_neg (nI_p0 pk), B160_285, iB]
    -- it goes on just if the next byte is lit
    have key : g = (decide (a + (enK (kread bs) s - a) < b) && lt (a + (enK (kread bs) s - a))) := by
      rw [show a + (enK (kread bs) s - a) = enK (kread bs) s by omega, Bool.eq_iff_iff, g2]
      simp only [Bool.and_eq_true, decide_eq_true_eq]
      constructor
      · rintro ⟨y1, y2, y3, y4⟩
        have e := ((px.pi.sc s y1).2).mp y3
        have sb2 := px.pi.sb (s + 1) y1
        refine ⟨by omega, ?_⟩
        rw [← hlit, lit_sign px.pi y1 (by omega) (by omega)]
        rcases plI_cases (kread bs) (pfZ bs Q S lim) (plZ bs Q S lim) (s + 1) with ⟨b1, b2⟩ | ⟨k', b1, b2, b3, b4⟩
        · rw [b2] at y4
          exact absurd y4 (m1_ne pk)
        · exact b3
      · rintro ⟨y1, y2⟩
        rw [← hlit] at y2
        unfold litZ at y2
        obtain ⟨s', q1, q2⟩ := List.any_eq_true.mp y2
        have q1 := List.mem_range.mp q1
        simp only [Bool.and_eq_true, decide_eq_true_eq] at q2
        obtain ⟨⟨q3, q4⟩, q5⟩ := q2
        have ge : s + 1 ≤ s' := by
          rcases Nat.lt_or_ge s' (s + 1) with c | c
          · exfalso
            by_cases e : s' = s
            · rw [e] at q4; omega
            · have := sgn_lt px.pi (show s' < s by omega) hs
              omega
          · exact c
        have sc := px.pi.sc s (by omega)
        have es : s' = s + 1 := by
          rcases Nat.lt_or_ge (s + 1) s' with c | c
          · exfalso
            have h1 := sgn_lt px.pi c q1
            have h2 := (px.pi.sb (s + 1) (by omega)).1
            omega
          · omega
        subst es
        have tg0 : tgS (kread bs) (s + 1) = 0 := sc.2.mpr (by omega)
        refine ⟨q1, by omega, tg0, ?_⟩
        rcases plI_cases (kread bs) (pfZ bs Q S lim) (plZ bs Q S lim) (s + 1) with ⟨b1, b2⟩ | ⟨k', b1, b2, b3, b4⟩
        · rw [b1] at q5; cases q5
        · have ro := run_on px.pi tx pc q1 tg0 a1 b1 a2 b2
          rw [b4, ro]
    have pn : pend lt a b (enK (kread bs) s - a) = if g = true then [] else [93] := by
      unfold pend
      rw [pe, ← key]
      cases g <;> rfl
    rw [pn]
    cases g
    · rw [if_neg (by decide), if_neg (by decide), B160_290, m157 (by rw [List.length_append]; omega), Option.bind_some, B160_296]
    · rw [if_pos rfl, if_pos rfl, B160_296, List.append_nil]
end
