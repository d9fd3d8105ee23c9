/-! PRINT: the class, bytes and passages -/
theorem nbE_at {ch en : Nat → Nat} : ∀ n, (∃ i, i < n ∧ ch i ≠ 32) → ∃ j, j < n ∧ nbE ch en n = en j ∧ ∀ i, i < n → ch i ≠ 32 → i ≤ j := by
  intro n
  induction n with
  | zero => intro h; obtain ⟨i, hi, _⟩ := h; omega
  | succ n ih =>
    intro h
    unfold nbE
    by_cases c : ch n = 32
    · rw [if_pos c]
      obtain ⟨i, h1, h2⟩ := h
      have : i ≠ n := fun e => h2 (e ▸ c)
      obtain ⟨j, j1, j2, j3⟩ := ih ⟨i, by omega, h2⟩
      refine ⟨j, by omega, j2, fun i' h1' h2' => ?_⟩
      have : i' ≠ n := fun e => h2' (e ▸ c)
      exact j3 i' (by omega) h2'
    · rw [if_neg c]
      exact ⟨n, by omega, rfl, fun i h1 _ => by omega⟩
/-- from where to where a sentence goes -/
def frm (T : CT) (K : KT) (s : Nat) : Nat := atK K ((wF K).getD ((T.1 8).getD s 0) 0)
def eto (T : CT) (s : Nat) : Nat := (T.1 9).getD s 0
theorem sent_at {bs : List Nat} {T T' : CT} {K : KT} (tx : TXR bs T K) (pi : PI bs bs.length T' K) {s : Nat} (hs : s < (T.1 8).length) : ∃ j, j < (K 139).length ∧ eto T s = enK K j ∧ (wF K).getD ((T.1 8).getD s 0) 0 ≤ j ∧ (wF K).getD ((T.1 8).getD s 0) 0 < (K 139).length ∧ (s + 1 < (T.1 8).length → j < (wF K).getD ((T.1 8).getD (s + 1) 0) 0) := by
  have w8 := tx.w8 s hs
  obtain ⟨b1, b2, b3, b4, b5, b6, b7, b8⟩ := tx.wb _ w8
  have nb : chK K ((wF K).getD ((T.1 8).getD s 0) 0) ≠ 32 := fun q => by
    have := b8 _ (Nat.le_refl _) b1
    rw [q] at this
    revert this
    decide
  by_cases c : s + 1 < (T.1 8).length
  · have w8' := tx.w8 (s + 1) c
    have so := tx.s8 s c
    have o := wrd_lt tx so w8'
    have y := tx.wb _ w8'
    obtain ⟨j, j1, j2, j3⟩ := nbE_at (ch := chK K) (en := enK K) ((wF K).getD ((T.1 8).getD (s + 1) 0) 0) ⟨_, by omega, nb⟩
    have yl := y.1
    have yn := y.2.1
    refine ⟨j, by omega, ?_, j3 _ (by omega) nb, by omega, fun _ => j1⟩
    unfold eto
    rw [tx.w9 s hs, if_pos c, j2]
  · obtain ⟨j, j1, j2, j3⟩ := nbE_at (ch := chK K) (en := enK K) (K 139).length ⟨_, by omega, nb⟩
    refine ⟨j, j1, ?_, j3 _ (by omega) nb, by omega, fun q => absurd q c⟩
    unfold eto
    rw [tx.w9 s hs, if_neg c, j2]
theorem frm_eto {bs : List Nat} {T T' : CT} {K : KT} (tx : TXR bs T K) (pi : PI bs bs.length T' K) {s : Nat} (hs : s < (T.1 8).length) : inS K (frm T K s) ∧ frm T K s < eto T s ∧ eto T s ≤ bs.length ∧ (s + 1 < (T.1 8).length → eto T s ≤ frm T K (s + 1)) := by
  obtain ⟨j, j1, j2, j3, j4, j5⟩ := sent_at tx pi hs
  have b1 := pi.sb _ j4
  have b2 := pi.sb _ j1
  refine ⟨⟨_, j4, Nat.le_refl _, b1.1⟩, ?_, by omega, fun c => ?_⟩
  · rw [j2]
    unfold frm
    by_cases e : (wF K).getD ((T.1 8).getD s 0) 0 = j
    · rw [e]; exact b2.1
    · have := sgn_lt pi (show (wF K).getD ((T.1 8).getD s 0) 0 < j by omega) j1
      omega
  · rw [j2]
    unfold frm
    obtain ⟨j', _, _, _, j4', _⟩ := sent_at tx pi c
    exact sgn_lt pi (j5 c) j4'
theorem frm_le {bs : List Nat} {T T' : CT} {K : KT} (tx : TXR bs T K) (pi : PI bs bs.length T' K) : ∀ {s s' : Nat}, s ≤ s' → s' < (T.1 8).length → frm T K s ≤ frm T K s' := by
  intro s s' h
  induction s' with
  | zero => intro _; rw [show s = 0 by omega]; exact Nat.le_refl _
  | succ m ih =>
    intro hs
    by_cases c : s = m + 1
    · rw [c]; exact Nat.le_refl _
    · have h1 := ih (by omega) (by omega)
      obtain ⟨_, h2, _, h3⟩ := frm_eto tx pi (show m < (T.1 8).length by omega)
      have := h3 hs
      omega
theorem eto_frm {bs : List Nat} {T T' : CT} {K : KT} (tx : TXR bs T K) (pi : PI bs bs.length T' K) {s s' : Nat} (h : s < s') (hs : s' < (T.1 8).length) : eto T s ≤ frm T K s' := by
  have h1 := (frm_eto tx pi (show s < (T.1 8).length by omega)).2.2.2 (by omega)
  have h2 := frm_le tx pi (show s + 1 ≤ s' by omega) hs
  omega
def prtP (bs : List Nat) (T : CT) (K : KT) (lt : Nat → Bool) (cf cl : List Nat) : Nat → List Nat
  | 0 => []
  | k + 1 => prtP bs T K lt cf cl k ++ ((if k = 0 then [] else [46, 46, 46]) ++ putO bs lt (frm T K (cf.getD k 0)) (eto T (cl.getD k 0)))
section
variable {L d : Nat} {Z : zS} {t : Nat} {bs : List Nat} {T T' : CT} {K : KT} {pf pl o g : List Nat}
theorem putO_len (pi : PI bs bs.length T' K) (lt : Nat → Bool) {a b : Nat} (ha : a ≤ b) (hb : b ≤ bs.length) : (putO bs lt a b).length ≤ 168 + 3 * (b - a) ∧ (opnN bs (stk bs a) (stk bs a).length).length ≤ 80 ∧ (oB bs lt a (b - a) ++ mkB (prvL lt a (b - a)) false).length ≤ 3 * (b - a) := by
  obtain ⟨s1, s2, s3⟩ := pi.so a (by omega)
  obtain ⟨r1, r2, r3⟩ := pi.so b hb
  have h1 := opnN_len (l := stk bs a) (fun x hx => (tag_in (s1 x hx).1).2.2.2.1 (s1 x hx).2) _ (Nat.le_refl _)
  have h2 := clsN_len (l := stk bs b) (fun x hx => (tag_in (r1 x hx).1).2.2.2.1 (r1 x hx).2) _ (Nat.le_refl _)
  have h3 := oB_len bs lt a (b - a)
  have h5 : (mkB (prvL lt a (b - a)) false).length ≤ b - a := by
    by_cases c : b - a = 0
    · rw [c]
      have : prvL lt a 0 = false := rfl
      rw [this]
      exact Nat.zero_le _
    · have := mkB_len (prvL lt a (b - a)) false
      omega
  unfold putO
  rw [List.length_append, List.length_append, List.length_append]
  omega
/-- the place that is looked at -/
theorem o33_find (cx : CX Z t bs T T' K pf pl) {i : Nat} (hi : i < bs.length) (x2 x3 x6 x7 : Int32) (v9 : Value) : ∀ (r k0 : Nat), k0 + r = pf.length → (∀ k, k < k0 → k < pf.length → pE K pl k ≤ i) → ∃ k1, k1 ≤ pf.length ∧ (∀ k, k < k1 → k < pf.length → pE K pl k ≤ i) ∧ (k1 < pf.length → i < pE K pl k1) ∧ xruns (O2 L) (zden L (d + 2)) 33 63 [.ref 85, .ref 4, .int x2, .int x3, .ref (t + 1), .int (nI k0), .int x6, .int x7, .int (nI i), v9] [] (zO Z o g) = xruns (O2 L) (zden L (d + 2)) 33 92 [.ref 85, .ref 4, .int x2, .int x3, .ref (t + 1), .int (nI k1), .int x6, .int x7, .int (nI i), v9] [] (zO Z o g) := by
  have fl := pfl cx
  have ll := cx.pc.1
  have len := cx.tx.len
  have el : ∀ k, k < pf.length → pE K pl k ≤ bs.length := fun k hk => by
    have q := cx.pc.2 k hk
    have b := cx.tx.wb _ q.2.1
    exact (cx.pi.sb _ b.2.1).2
  intro r
  induction r with
  | zero =>
    intro k0 hk h
    refine ⟨k0, by omega, h, fun q => by omega, ?_⟩
    rw [B33_63, J4_6, Option.bind_some, N55 rfl, Option.bind_some, zO_o (by omega) (by omega), cx.e58, List.length_map, iL (by omega) (by omega), if_pos (by omega)]
  | succ r ih =>
    intro k0 hk h
    have e := el k0 (by omega)
    by_cases c : i < pE K pl k0
    · refine ⟨k0, by omega, h, fun _ => c, ?_⟩
      rw [B33_63, J4_6, Option.bind_some, N55 rfl, Option.bind_some, zO_o (by omega) (by omega), cx.e58, List.length_map, iL (by omega) (by omega), if_neg (by omega), B33_75, oE cx (by omega), Option.bind_some, iT (by omega) (by omega), if_pos c]
    · obtain ⟨k1, h1, h2, h3, h4⟩ := ih (k0 + 1) (by omega) (fun k q1 q2 => by
        by_cases w : k = k0
        · rw [w]; omega
        · exact h k (by omega) q2)
      refine ⟨k1, h1, h2, h3, ?_⟩
      rw [B33_63, J4_6, Option.bind_some, N55 rfl, Option.bind_some, zO_o (by omega) (by omega), cx.e58, List.length_map, iL (by omega) (by omega), if_neg (by omega), B33_75, oE cx (by omega), Option.bind_some, iT (by omega) (by omega), if_neg c, B33_86, nI_add]
      exact h4
theorem o33 (cx : CX Z t bs T T' K pf pl) {a b : Nat} (hab : a ≤ b) (hb : b ≤ bs.length) (ha : a = 0 ∨ inS K a) (h : o.length + 3 * (b - a) + 88 ≤ 4539) : zden L (d + 5) 33 [.ref 85, .ref 4, .int (nI a), .int (nI b)] (zO Z o (stk bs a)) = some (0, zO Z (o ++ (oB bs (litZ K pf pl) a (b - a) ++ mkB (prvL (litZ K pf pl) a (b - a)) false)) (stk bs b)) := by
  have fl := pfl cx
  have ll := cx.pc.1
  have len := cx.tx.len
  have loop : ∀ (r n k0 : Nat) (v9 : Value), a + n + r = b → k0 ≤ pf.length → (∀ k, k < k0 → k < pf.length → pE K pl k ≤ a + n) → xruns (O2 L) (zden L (d + 4)) 33 21 [.ref 85, .ref 4, .int (nI a), .int (nI b), .ref (t + 1), .int (nI k0), .int (nI (te bs a n)), .int (bI (prvL (litZ K pf pl) a n)), .int (nI (a + n)), v9] [] (zO Z (o ++ oB bs (litZ K pf pl) a n) (stk bs (a + n))) = some (0, zO Z (o ++ (oB bs (litZ K pf pl) a (b - a) ++ mkB (prvL (litZ K pf pl) a (b - a)) false)) (stk bs b)) := by
    intro r
    induction r with
    | zero =>
      intro n k0 v9 hn hk0 hk
      have : a + n = b := by omega
      have ol := oB_len bs (litZ K pf pl) a n
      rw [show b - a = n by omega, this, B33_21, if_pos (nI_le (Nat.le_refl _) (by omega)), B33_161]
      have e34 := o34 (L := L) (d := d + 1) (Z := Z) (g := stk bs b) (o := o ++ oB bs (litZ K pf pl) a n) (prvL (litZ K pf pl) a n) false (by rw [List.length_append]; omega)
      have e34 : zden L (d + 4) 34 [.ref 85, .int (bI (prvL (litZ K pf pl) a n)), .int (nI 0)] _ = _ := e34
      rw [e34, Option.bind_some, List.append_assoc]
    | succ r ih =>
      intro n k0 v9 hn hk0 hk
      have hi : a + n < bs.length := by omega
      have ol := oB_len bs (litZ K pf pl) a n
      have bi := cx.bb.1 (bs.getD (a + n) 0) (by rw [gD hi]; exact List.getElem_mem _)
      have tel := te_le cx.pi (show a ≤ bs.length by omega) (n + 1) (by omega)
      have tel0 := te_le cx.pi (show a ≤ bs.length by omega) n (by omega)
      have tei := te_iff cx.pi ha hi
      -- from the place to the next byte
      have fin : ∀ k1, k1 ≤ pf.length → (∀ k, k < k1 → k < pf.length → pE K pl k ≤ a + n) → (k1 < pf.length → a + n < pE K pl k1) → xruns (O2 L) (zden L (d + 4)) 33 92 [.ref 85, .ref 4, .int (nI a), .int (nI b), .ref (t + 1), .int (nI k1), .int (nI (te bs a (n + 1))), .int (bI (prvL (litZ K pf pl) a n)), .int (nI (a + n)), v9] [] (zO Z (o ++ oB bs (litZ K pf pl) a n) (stk bs (a + n + 1))) = some (0, zO Z (o ++ (oB bs (litZ K pf pl) a (b - a) ++ mkB (prvL (litZ K pf pl) a (b - a)) false)) (stk bs b)) := by
        intro k1 g1 g2 g3
        have put : xruns (O2 L) (zden L (d + 4)) 33 127 [.ref 85, .ref 4, .int (nI a), .int (nI b), .ref (t + 1), .int (nI k1), .int (nI (te bs a (n + 1))), .int (bI (prvL (litZ K pf pl) a n)), .int (nI (a + n)), v9] [.int (bI (litZ K pf pl (a + n)))] (zO Z (o ++ oB bs (litZ K pf pl) a n) (stk bs (a + n + 1))) = some (0, zO Z (o ++ (oB bs (litZ K pf pl) a (b - a) ++ mkB (prvL (litZ K pf pl) a (b - a)) false)) (stk bs b)) := by
          have ml := mkB_len (prvL (litZ K pf pl) a n) (litZ K pf pl (a + n))
          have e34 := o34 (L := L) (d := d + 1) (Z := Z) (g := stk bs (a + n + 1)) (o := o ++ oB bs (litZ K pf pl) a n) (prvL (litZ K pf pl) a n) (litZ K pf pl (a + n)) (by rw [List.length_append]; omega)
          have i0 := ih (n + 1) k1 (.int (bI (litZ K pf pl (a + n)))) (by omega) g1 (fun k q1 q2 => by have := g2 k q1 q2; omega)
          have ep : prvL (litZ K pf pl) a (n + 1) = litZ K pf pl (a + n) := by
            unfold prvL
            rw [decide_eq_true (by omega), Bool.true_and, show a + (n + 1) - 1 = a + n by omega]
          have eo : o ++ oB bs (litZ K pf pl) a (n + 1) = o ++ oB bs (litZ K pf pl) a n ++ mkB (prvL (litZ K pf pl) a n) (litZ K pf pl (a + n)) ++ [bs.getD (a + n) 0] := by
            show o ++ (oB bs (litZ K pf pl) a n ++ (mkB (prvL (litZ K pf pl) a n) (litZ K pf pl (a + n)) ++ [bs.getD (a + n) 0])) = _
            rw [List.append_assoc, List.append_assoc]
          rw [ep, eo] at i0
          rw [B33_127, e34, Option.bind_some, J85_0, Option.bind_some, ob cx hi, Option.bind_some, o86 (by rw [List.length_append, List.length_append]; omega), Option.bind_some, nI_add]
          exact i0
        rw [B33_92, iT (by omega) (by omega)]
        by_cases c : a + n < te bs a (n + 1)
        · have ns : ¬ inS K (a + n) := fun q => by have := tei.mpr q; omega
          rw [lit_tag ns] at put
          rw [if_pos c, B33_126]
          exact put
        · have ins : inS K (a + n) := tei.mp (by omega)
          have lc := lit_cls cx.pi cx.tx cx.pc ins g2 g3
          rw [if_neg c, B33_99, J4_5, Option.bind_some, N55 rfl, Option.bind_some, zO_o (by omega) (by omega), cx.e56, List.length_map, iL (by omega) (by omega)]
          by_cases c2 : pf.length ≤ k1
          · rw [decide_eq_false (show ¬ k1 < pf.length by omega), Bool.false_and] at lc
            rw [lc] at put
            rw [if_pos c2, B33_126]
            exact put
          · have sl : pS K pf k1 ≤ bs.length := by
              have q := cx.pc.2 k1 (by omega)
              have w := cx.tx.wb _ (Nat.lt_of_le_of_lt q.1 q.2.1)
              have w1 := w.1
              have w2 := w.2.1
              have y := cx.pi.sb ((wF K).getD (pf.getD k1 0) 0) (by omega)
              unfold pS
              omega
            rw [decide_eq_true (show k1 < pf.length by omega), Bool.true_and] at lc
            rw [if_neg c2, B33_111, oS cx (by omega), Option.bind_some, iT (by omega) (by omega)]
            by_cases c3 : a + n < pS K pf k1
            · rw [decide_eq_false (by omega)] at lc
              rw [lc] at put
              rw [if_pos c3, B33_126]
              exact put
            · rw [decide_eq_true (by omega)] at lc
              rw [lc] at put
              rw [if_neg c3, B33_122]
              exact put
      rw [B33_21, iL (by omega) (by omega), if_neg (by omega), B33_27, ob cx hi, Option.bind_some, iE (by omega) (by omega)]
      by_cases c : bs.getD (a + n) 0 = 60
      · have c' := (b60 hi).mp c
        have te' : te bs a (n + 1) = a + n + tagL bs (a + n) := by show (if _ then _ else _) = _; rw [if_pos c']
        obtain ⟨k1, h1, h2, h3, h4⟩ := o33_find (L := L) (d := d + 2) (o := o ++ oB bs (litZ K pf pl) a n) (g := stk bs (a + n + 1)) cx hi (nI a) (nI b) (nI (te bs a (n + 1))) (bI (prvL (litZ K pf pl) a n)) v9 (pf.length - k0) k0 (by omega) hk
        rw [if_pos c, B33_39, J85_1, Option.bind_some, o70 cx hi, Option.bind_some, o68 cx (by omega), Option.bind_some, nI_add, ← stk_step c', ← te']
        exact h4.trans (fin k1 h1 h2 h3)
      · have c' := fun w => c ((b60 hi).mpr w)
        have te' : te bs a (n + 1) = te bs a n := by show (if _ then _ else _) = _; rw [if_neg c']
        obtain ⟨k1, h1, h2, h3, h4⟩ := o33_find (L := L) (d := d + 2) (o := o ++ oB bs (litZ K pf pl) a n) (g := stk bs (a + n + 1)) cx hi (nI a) (nI b) (nI (te bs a (n + 1))) (bI (prvL (litZ K pf pl) a n)) v9 (pf.length - k0) k0 (by omega) hk
        rw [if_neg c, ← te', ← stk_no c']
        exact h4.trans (fin k1 h1 h2 h3)
  rw [N33 _ _ _ _ ob85, B33_0, oP0 cx, Option.bind_some, R6_0 cx.it, Option.bind_some]
  have l0 := loop (b - a) 0 0 .null (by omega) (Nat.zero_le _) (fun k q => by omega)
  rw [show o ++ oB bs (litZ K pf pl) a 0 = o from List.append_nil o] at l0
  exact l0
theorem o31 (cx : CX Z t bs T T' K pf pl) {a b : Nat} (hab : a ≤ b) (hb : b ≤ bs.length) (ha : a = 0 ∨ inS K a) (h : o.length + 168 + 3 * (b - a) ≤ 4539) : zden L (d + 6) 31 [.ref 85, .ref 4, .int (nI a), .int (nI b)] (zO Z o g) = some (0, zO Z (o ++ putO bs (litZ K pf pl) a b) (stk bs b)) := by
  obtain ⟨p1, p2, p3⟩ := putO_len cx.pi (litZ K pf pl) hab hb
  have e35 := o35 (L := L) (d := d) (o := o ++ opnN bs (stk bs a) (stk bs a).length ++ (oB bs (litZ K pf pl) a (b - a) ++ mkB (prvL (litZ K pf pl) a (b - a)) false)) cx hb (by rw [List.length_append, List.length_append]; omega)
  rw [N31 _ _ _ _ ob85, B31_0, oP0 cx, Option.bind_some, R6_0 cx.it, Option.bind_some, o32 cx (by omega) (by omega), Option.bind_some, o33 cx hab hb ha (by rw [List.length_append]; omega), Option.bind_some, oP0 cx, Option.bind_some, R6_0 cx.it, Option.bind_some, e35, Option.bind_some]
  unfold putO
  simp only [List.append_assoc]
theorem o29 (cx : CX Z t bs T T' K pf pl) : zden L (d + 7) 29 [.ref 85, .ref 4] (zO Z o g) = some (0, zO Z (putO bs (litZ K pf pl) 0 bs.length) (stk bs bs.length)) := by
  have len := cx.tx.len
  have r := cx.rw 0 (by omega)
  have e31 := o31 (L := L) (d := d) (o := []) (g := g) cx (Nat.zero_le bs.length) (Nat.le_refl _) (Or.inl rfl) (by show 0 + 168 + 3 * (bs.length - 0) ≤ 4539; omega)
  rw [N29 _ _ ob85, B29_0, J85_0, Option.bind_some, N63 rfl, Option.bind_some, show ([] : List Int32) = ([] : List Nat).map nI from rfl, zO_s86, oP0 cx, Option.bind_some, R6_0 cx.it, Option.bind_some, N55 (W6_0 cx.it).1, Option.bind_some, zO_o (by rcases cx.it with e | e <;> omega) (by rcases cx.it with e | e <;> omega), r, cx.tx.e0, List.length_map, e31, Option.bind_some, List.nil_append]
theorem prtP_len {cf cl : List Nat} (tx : TXR bs T K) (pi : PI bs bs.length T' K) (lt : Nat → Bool) (pc : PLC (T.1 8).length cf cl) : ∀ k, k ≤ cf.length → (prtP bs T K lt cf cl k).length ≤ 171 * k + (if k = 0 then 0 else 3 * eto T (cl.getD (k - 1) 0)) := by
  intro k
  induction k with
  | zero => intro _; exact Nat.zero_le _
  | succ k ih =>
    intro hk
    have i0 := ih (by omega)
    have q := pc.2 k (by omega)
    have fe := frm_eto tx pi (show cl.getD k 0 < (T.1 8).length from q.2.1)
    have fl := frm_le tx pi q.1 q.2.1
    have po := (putO_len pi lt (show frm T K (cf.getD k 0) ≤ eto T (cl.getD k 0) by omega) fe.2.2.1).1
    unfold prtP
    rw [List.length_append, List.length_append, if_neg (show ¬ k + 1 = 0 by omega), Nat.add_sub_cancel]
    by_cases c : k = 0
    · rw [if_pos c] at i0 ⊢
      simp only [List.length_nil]
      omega
    · rw [if_neg c] at i0 ⊢
      have q' := pc.2 (k - 1) (by omega)
      have l1 := q'.2.2 (by omega)
      rw [show k - 1 + 1 = k by omega] at l1
      have ef := eto_frm tx pi l1 (by omega)
      simp only [List.length_cons, List.length_nil]
      omega
theorem o30 {cf cl : List Nat} (cx : CX Z t bs T T' K pf pl) (e79 : Z.1 79 = cf.map nI) (e81 : Z.1 81 = cl.map nI) (pc : PLC (T.1 8).length cf cl) (h9 : cf.length ≤ 9) : ∃ g', zden L (d + 7) 30 [.ref 85, .ref 4, .ref 78] (zO Z o g) = some (0, zO Z (prtP bs T K (litZ K pf pl) cf cl cf.length) g') := by
  have len := cx.tx.len
  have W300 := cx.tx.W300
  have l8 := cx.tx.l8
  have l9 := cx.tx.l9
  have ll := pc.1
  have r1 := cx.rw 1 (by omega)
  have r8 := cx.rw 8 (by omega)
  have r9 := cx.rw 9 (by omega)
  have no : ∀ k, k ≤ 9 → t + (2 * k + 1) ≠ 86 ∧ t + (2 * k + 1) ≠ 89 := fun k hk => by rcases cx.it with e | e <;> omega
  have loop : ∀ (r k : Nat) (g : List Nat) (v5 : Value), k + r = cf.length → ∃ g', xruns (O2 L) (zden L (d + 6)) 30 15 [.ref 85, .ref 4, .ref 78, .ref t, .int (nI k), v5] [] (zO Z (prtP bs T K (litZ K pf pl) cf cl k) g) = some (0, zO Z (prtP bs T K (litZ K pf pl) cf cl cf.length) g') := by
    intro r
    induction r with
    | zero =>
      intro k g v5 hk
      have : k = cf.length := by omega
      subst this
      exact ⟨g, by rw [B30_15, J78_0, Option.bind_some, N55 rfl, Option.bind_some, zO_o (by omega) (by omega), e79, List.length_map, if_pos (nI_le (Nat.le_refl _) (by omega)), B30_100]⟩
    | succ r ih =>
      intro k g v5 hk
      have q := pc.2 k (by omega)
      have fe := frm_eto cx.tx cx.pi (show cl.getD k 0 < (T.1 8).length from q.2.1)
      have fe0 := frm_eto cx.tx cx.pi (show cf.getD k 0 < (T.1 8).length by omega)
      have fl := frm_le cx.tx cx.pi q.1 q.2.1
      have pl0 := prtP_len cx.tx cx.pi (litZ K pf pl) pc k (by omega)
      have w8 := cx.tx.w8 (cf.getD k 0) (by omega)
      have b := cx.tx.wb _ w8
      -- the dots
      have dots : ∃ x5, xruns (O2 L) (zden L (d + 6)) 30 30 [.ref 85, .ref 4, .ref 78, .ref t, .int (nI k), .int (nI 0)] [] (zO Z (prtP bs T K (litZ K pf pl) cf cl k) g) = xruns (O2 L) (zden L (d + 6)) 30 56 [.ref 85, .ref 4, .ref 78, .ref t, .int (nI k), .int x5] [] (zO Z (prtP bs T K (litZ K pf pl) cf cl k ++ (if k = 0 then [] else [46, 46, 46])) g) := by
        by_cases c : k = 0
        · refine ⟨nI 0, ?_⟩
          rw [B30_30, iL (by omega) (by omega), if_pos (by omega), if_pos c, List.append_nil]
        · refine ⟨nI 3, ?_⟩
          rw [if_neg c] at pl0
          have lm : 3 * eto T (cl.getD (k - 1) 0) ≤ 3 * bs.length := by
            have q' := pc.2 (k - 1) (by omega)
            have := (frm_eto cx.tx cx.pi (show cl.getD (k - 1) 0 < (T.1 8).length from q'.2.1)).2.2.1
            omega
          have one : ∀ (x : Nat) (o : List Nat), x < 3 → o.length < 4539 → xruns (O2 L) (zden L (d + 6)) 30 30 [.ref 85, .ref 4, .ref 78, .ref t, .int (nI k), .int (nI x)] [] (zO Z o g) = xruns (O2 L) (zden L (d + 6)) 30 30 [.ref 85, .ref 4, .ref 78, .ref t, .int (nI k), .int (nI (x + 1))] [] (zO Z (o ++ [46]) g) := by
            intro x o hx ho
            rw [B30_30, iL (by omega) (by omega), if_neg (by omega), B30_35, iL (by omega) (by omega), if_neg (by omega), B30_41, J85_0, Option.bind_some, o86 ho, Option.bind_some, nI_add]
          rw [one 0 _ (by omega) (by omega), one 1 _ (by omega) (by rw [List.length_append]; simp only [List.length_cons, List.length_nil]; omega), one 2 _ (by omega) (by rw [List.length_append, List.length_append]; simp only [List.length_cons, List.length_nil]; omega), B30_30, iL (by omega) (by omega), if_neg (by omega), B30_35, iL (by omega) (by omega), if_pos (by omega), if_neg c, List.append_assoc, List.append_assoc]
          rfl
      obtain ⟨x5, dots⟩ := dots
      have cap : (prtP bs T K (litZ K pf pl) cf cl k ++ (if k = 0 then [] else [46, 46, 46])).length + 168 + 3 * (eto T (cl.getD k 0) - frm T K (cf.getD k 0)) ≤ 4539 := by
        rw [List.length_append]
        by_cases c : k = 0
        · rw [if_pos c] at pl0 ⊢
          simp only [List.length_nil]
          omega
        · rw [if_neg c] at pl0 ⊢
          have q' := pc.2 (k - 1) (by omega)
          have l1 := q'.2.2 (by omega)
          rw [show k - 1 + 1 = k by omega] at l1
          have ef := eto_frm cx.tx cx.pi l1 (by omega)
          simp only [List.length_cons, List.length_nil]
          omega
      obtain ⟨g', i0⟩ := ih (k + 1) (stk bs (eto T (cl.getD k 0))) (.int (nI (frm T K (cf.getD k 0)))) (by omega)
      refine ⟨g', ?_⟩
      have eo : prtP bs T K (litZ K pf pl) cf cl (k + 1) = prtP bs T K (litZ K pf pl) cf cl k ++ (if k = 0 then [] else [46, 46, 46]) ++ putO bs (litZ K pf pl) (frm T K (cf.getD k 0)) (eto T (cl.getD k 0)) := by
        rw [List.append_assoc]; rfl
      rw [eo] at i0
      have e77 : ∀ o : List Nat, zden L (d + 6) 77 [.ref t, .int (nI (cf.getD k 0))] (zO Z o g) = some (nI (frm T K (cf.getD k 0)), zO Z o g) := fun o => by
        rw [N77 _ _ (obT cx.it), B77_0, R6_1 cx.it, Option.bind_some, R6_8 cx.it, Option.bind_some, N56 (W6_8 cx.it).1, Option.bind_some, zO_o (no 8 (by omega)).1 (no 8 (by omega)).2, r8, zget_map (by omega) (by omega), N56 (W6_1 cx.it).1, Option.bind_some, zO_o (no 1 (by omega)).1 (no 1 (by omega)).2, r1, zget_map w8 (by omega), b.2.2.1]
        rfl
      have e31 := o31 (L := L) (d := d) (g := g) cx (show frm T K (cf.getD k 0) ≤ eto T (cl.getD k 0) by omega) fe.2.2.1 (Or.inr fe0.1) cap
      rw [B30_15, J78_0, Option.bind_some, N55 rfl, Option.bind_some, zO_o (by omega) (by omega), e79, List.length_map, iL (by omega) (by omega), if_neg (by omega), B30_27, dots, B30_56, J78_0, Option.bind_some, N56 rfl, Option.bind_some, zO_o (by omega) (by omega), e79, zget_map (by omega) (by omega), e77, Option.bind_some, R6_9 cx.it, Option.bind_some, J78_1, Option.bind_some, N56 rfl, Option.bind_some, zO_o (by omega) (by omega), e81, zget_map (by omega) (by omega), N56 (W6_9 cx.it).1, Option.bind_some, zO_o (no 9 (by omega)).1 (no 9 (by omega)).2, r9, zget_map (by omega) (by omega)]
      show ((zden L (d + 6) 31 [.ref 85, .ref 4, .int (nI (frm T K (cf.getD k 0))), .int (nI (eto T (cl.getD k 0)))] (zO Z (prtP bs T K (litZ K pf pl) cf cl k ++ (if k = 0 then [] else [46, 46, 46])) g)).bind _) = _
      rw [e31, Option.bind_some, nI_add]
      exact i0
  obtain ⟨g', l0⟩ := loop cf.length 0 g .null (by omega)
  refine ⟨g', ?_⟩
  rw [N30 _ _ _ ob85, B30_0, oP0 cx, Option.bind_some, J85_0, Option.bind_some, N63 rfl, Option.bind_some, show ([] : List Int32) = ([] : List Nat).map nI from rfl, zO_s86]
  exact l0
end
