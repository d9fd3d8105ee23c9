/-! EVALUATION: places and scores, in the class -/
def pfA (mk jd : Nat → Bool) (n : Nat) : List Nat := (List.range n).filter (fun v => mk v && !(decide (v ≠ 0) && jd (v - 1)))
def plA (mk jd : Nat → Bool) (n : Nat) : List Nat := (List.range n).filter (fun v => mk v && !jd v)
theorem filt_succ (p : Nat → Bool) (n : Nat) : (List.range (n + 1)).filter p = if p n = true then (List.range n).filter p ++ [n] else (List.range n).filter p := by
  rw [List.range_succ, List.filter_append, List.filter_cons, List.filter_nil]
  split <;> simp
theorem filt_len (p : Nat → Bool) (n : Nat) : ((List.range n).filter p).length ≤ n := by
  have := List.length_filter_le p (List.range n)
  rw [List.length_range] at this
  exact this
/-- words of a sentence -/
def wdZ (T : CT) (s : Nat) : Nat := (if s + 1 < (T.1 8).length then (T.1 8).getD (s + 1) 0 else (T.1 1).length) - (T.1 8).getD s 0
/-- the sentences of a text -/
def TZ (T : CT) : Prop := (T.1 8).length ≤ (T.1 1).length ∧ (T.1 1).length ≤ 300 ∧ (∀ s, s < (T.1 8).length → (T.1 8).getD s 0 ≤ (T.1 1).length) ∧ (∀ s, s + 1 < (T.1 8).length → (T.1 8).getD s 0 ≤ (T.1 8).getD (s + 1) 0)
def hitZ (T Q : CT) (lk s l : Nat) : Nat := min 3 ((List.range (wdZ T s)).countP (fun i => decide ((T.1 8).getD s 0 + i < lk) && way T Q l lk ((T.1 8).getD s 0 + i)))
def sumZ (T Q : CT) (li : Nat → Bool) (lk s : Nat) : Nat → Nat
  | 0 => 0
  | l + 1 => sumZ T Q li lk s l + (if li l = true then 1000 / (1 + cntW T Q l lk lk) * hitZ T Q lk s l else 0)
def scoZ (T Q : CT) (li : Nat → Bool) (lk s : Nat) : Nat := 16 * sumZ T Q li lk s (Q.1 6).length / (16 + wdZ T s)
theorem sumZ_le (T Q : CT) (li : Nat → Bool) (lk s : Nat) : ∀ l, sumZ T Q li lk s l ≤ 3000 * l := by
  intro l
  induction l with
  | zero => exact Nat.le_refl _
  | succ l ih =>
    unfold sumZ
    split
    · have h1 : hitZ T Q lk s l ≤ 3 := Nat.min_le_left _ _
      have h2 : 1000 / (1 + cntW T Q l lk lk) ≤ 1000 := Nat.div_le_self _ _
      have := Nat.mul_le_mul h2 h1
      omega
    · omega
theorem wdZ_le {T : CT} (tz : TZ T) {s : Nat} (hs : s < (T.1 8).length) : (T.1 8).getD s 0 + wdZ T s ≤ (T.1 1).length := by
  obtain ⟨z1, z2, z3, z4⟩ := tz
  have a := z3 s hs
  unfold wdZ
  split
  · rename_i c
    have b := z3 (s + 1) c
    have := z4 s c
    omega
  · omega
section
variable {L d : Nat} {z : zS} {T Q : CT} {t q lk : Nat}
theorem x25 {M : CT} {mk jd : Nat → Bool} {W : Nat} (hlk : M.2 16 = lk) (h300 : lk ≤ 300) (hW : lk ≤ W) (W300 : W ≤ 300) (h2 : M.1 2 = (List.range W).map (fun v => bN (mk v))) (h9 : M.1 9 = (List.range lk).map (fun v => bN (jd v))) :
    zden L (d + 3) 25 [.ref 4] (putM z M) = some (0, putM z (va_up (va_up M.1 3 (pfA mk jd lk)) 4 (plA mk jd lk), M.2)) := by
  have loop : ∀ (r w : Nat), w + r = lk → xruns (O2 L) (zden L (d + 2)) 25 16 [.ref 4, .int (nI w)] [] (putM z (va_up (va_up M.1 3 (pfA mk jd w)) 4 (plA mk jd w), M.2)) = some (0, putM z (va_up (va_up M.1 3 (pfA mk jd lk)) 4 (plA mk jd lk), M.2)) := by
    intro r
    induction r with
    | zero =>
      intro w hw
      have : w = lk := by omega
      subst this
      rw [B25_16, X16r, Option.bind_some]
      show (if nI (M.2 16) ≤ nI w then _ else _) = _
      rw [hlk, iL (by omega) (by omega), if_pos (Nat.le_refl _), B25_96]
    | succ r ih =>
      intro w hw
      have lp : (pfA mk jd w).length ≤ w := filt_len _ _
      have lq : (plA mk jd w).length ≤ w := filt_len _ _
      have bm := bN_le (mk w)
      have bj := bN_le (jd w)
      have g2 : ∀ A B : List Nat, zden L (d + 2) 56 [.ref 54, .int (nI w)] (putM z (va_up (va_up M.1 3 A) 4 B, M.2)) = some (nI (bN (mk w)), putM z (va_up (va_up M.1 3 A) 4 B, M.2)) := by
        intro A B
        rw [X2g]
        show some (zget ((M.1 2).map nI) (nI w), _) = _
        rw [h2, zget_map (by rw [List.length_map, List.length_range]; omega) (by rw [List.length_map, List.length_range]; omega), map_at (by omega)]
      have g9 : ∀ (A B : List Nat) (k : Nat), k < lk → zden L (d + 2) 56 [.ref 68, .int (nI k)] (putM z (va_up (va_up M.1 3 A) 4 B, M.2)) = some (nI (bN (jd k)), putM z (va_up (va_up M.1 3 A) 4 B, M.2)) := by
        intro A B k hk
        rw [X9g]
        show some (zget ((M.1 9).map nI) (nI k), _) = _
        rw [h9, zget_map (by rw [List.length_map, List.length_range]; omega) (by rw [List.length_map, List.length_range]; omega), map_at hk]
      have e90 : xruns (O2 L) (zden L (d + 2)) 25 90 [.ref 4, .int (nI w)] [] (putM z (va_up (va_up M.1 3 (pfA mk jd (w + 1))) 4 (plA mk jd (w + 1)), M.2)) = some (0, putM z (va_up (va_up M.1 3 (pfA mk jd lk)) 4 (plA mk jd lk), M.2)) := by
        rw [B25_90, nI_add]
        exact ih (w + 1) (by omega)
      have eq1 : pfA mk jd (w + 1) = if (mk w && !(decide (w ≠ 0) && jd (w - 1))) = true then pfA mk jd w ++ [w] else pfA mk jd w := filt_succ _ _
      have eq2 : plA mk jd (w + 1) = if (mk w && !jd w) = true then plA mk jd w ++ [w] else plA mk jd w := filt_succ _ _
      have e58 : xruns (O2 L) (zden L (d + 2)) 25 58 [.ref 4, .int (nI w)] [] (putM z (va_up (va_up M.1 3 (pfA mk jd (w + 1))) 4 (plA mk jd w), M.2)) = some (0, putM z (va_up (va_up M.1 3 (pfA mk jd lk)) 4 (plA mk jd lk), M.2)) := by
        rw [B25_58, J4_4, Option.bind_some, g2, Option.bind_some, iE (by omega) (by omega)]
        by_cases c : bN (mk w) = 1
        · rw [if_pos c, B25_70, J4_11, Option.bind_some, g9 _ _ w (by omega), Option.bind_some, iE (by omega) (by omega)]
          by_cases c2 : bN (jd w) = 1
          · rw [if_neg (by rw [(bN_1 _).mp c2]; simp)] at eq2
            rw [if_pos c2, ← eq2]
            exact e90
          · rw [if_pos (by rw [(bN_1 _).mp c, (bN_0 (jd w)).mp (by omega)]; rfl)] at eq2
            rw [if_neg c2, B25_82, J4_6, Option.bind_some, Y4a _ (by omega), Option.bind_some, ← eq2]
            exact e90
        · rw [if_neg (by rw [(bN_0 (mk w)).mp (by omega)]; simp)] at eq2
          rw [if_neg c, ← eq2]
          exact e90
      rw [B25_16, X16r, Option.bind_some]
      show (if nI (M.2 16) ≤ nI w then _ else _) = _
      rw [hlk, iL (by omega) (by omega), if_neg (by omega), B25_24, J4_4, Option.bind_some, g2, Option.bind_some, iE (by omega) (by omega)]
      by_cases c : bN (mk w) = 1
      · have c' := (bN_1 _).mp c
        have e50 : (mk w && !(decide (w ≠ 0) && jd (w - 1))) = true → xruns (O2 L) (zden L (d + 2)) 25 50 [.ref 4, .int (nI w)] [] (putM z (va_up (va_up M.1 3 (pfA mk jd w)) 4 (plA mk jd w), M.2)) = some (0, putM z (va_up (va_up M.1 3 (pfA mk jd lk)) 4 (plA mk jd lk), M.2)) := by
          intro hq
          rw [if_pos hq] at eq1
          rw [B25_50, J4_5, Option.bind_some, up_comm _ (show (3 : Nat) ≠ 4 by omega), Y3a _ (by omega), Option.bind_some, ← eq1, up_comm _ (show (4 : Nat) ≠ 3 by omega)]
          exact e58
        rw [if_pos c, B25_36, J4_11, Option.bind_some]
        by_cases w0 : w = 0
        · subst w0
          rw [X9g, Option.bind_some, zget_neg (by decide), if_neg (show ¬ ((-1 : Int32) = nI 1) from by decide)]
          exact e50 (by rw [c']; simp)
        · have bj' := bN_le (jd (w - 1))
          rw [pk_sub (by omega), g9 _ _ (w - 1) (by omega), Option.bind_some, iE (by omega) (by omega)]
          by_cases c2 : bN (jd (w - 1)) = 1
          · rw [if_neg (by rw [(bN_1 _).mp c2, decide_eq_true w0]; simp)] at eq1
            rw [if_pos c2, ← eq1]
            exact e58
          · rw [if_neg c2]
            exact e50 (by rw [c', (bN_0 (jd (w - 1))).mp (by omega), Bool.and_false]; rfl)
      · rw [if_neg (by rw [(bN_0 (mk w)).mp (by omega)]; simp)] at eq1
        rw [if_neg c, ← eq1]
        exact e58
  rw [N25 _ ob4, B25_0, J4_5, Option.bind_some, X3c, Option.bind_some, J4_6, Option.bind_some, X4c, Option.bind_some]
  exact loop lk 0 (by omega)
theorem x76 {M : CT} (h : RO z t q T Q) (tz : TZ T) {s : Nat} (hs : s < (T.1 8).length) : zden L (d + 3) 76 [.ref t, .int (nI s)] (putM z M) = some (nI (wdZ T s), putM z M) := by
  have wl := wdZ_le tz hs
  obtain ⟨z1, z2, z3, z4⟩ := tz
  have fin : ∀ (x2 : Int32) (v3 : Value) (b : Nat), b - (T.1 8).getD s 0 = wdZ T s → (T.1 8).getD s 0 ≤ b → xruns (O2 L) (zden L (d + 2)) 76 37 [.ref t, .int (nI s), .int x2, v3] [.int (nI b)] (putM z M) = some (nI (wdZ T s), putM z M) := by
    intro x2 v3 b hb hb2
    rw [B76_37, R6_8 h.1, Option.bind_some, XT8g h, Option.bind_some, zget_map hs (by omega), pk_sub hb2, hb]
  rw [N76 _ _ (obT h.1), B76_0, x75 h, Option.bind_some, nI_add, iT (by omega) (by omega)]
  by_cases c : s + 1 < (T.1 8).length
  · rw [if_pos c, B76_14, B76_15, if_pos rfl, B76_27, R6_8 h.1, Option.bind_some, nI_add, XT8g h, Option.bind_some, zget_map c (by omega)]
    exact fin _ _ _ (by unfold wdZ; rw [if_pos c]) (z4 s c)
  · rw [if_neg c, B76_10, B76_15, if_neg (by decide), B76_20, x74 h, Option.bind_some]
    exact fin _ _ _ (by unfold wdZ; rw [if_neg c]) (z3 s hs)
theorem x108 {a b : Nat} (ha : a < 2 ^ 31) (hb : 0 < b) (hb2 : b < 2 ^ 31) : zden L (d + 1) 108 [.int (nI a), .int (nI b)] z = some (nI (a / b), z) := by
  rw [N108, B108_0, iL hb2 (by omega), if_neg (by omega), B108_4, iE hb2 (by omega), if_neg (by omega), B108_11, pk_div ha hb hb2]
theorem x7 {M : CT} {C : Nat → Nat} {n l : Nat} (h0 : M.1 0 = (List.range n).map C) (hl : l < n) (n12 : n ≤ 12) (hC : C l ≤ 300) : zden L (d + 2) 7 [.ref 4, .int (nI l)] (putM z M) = some (nI (1000 / (1 + C l)), putM z M) := by
  rw [N7 _ _ ob4, B7_0, J4_2, Option.bind_some, X0g, Option.bind_some, h0, zget_map (by rw [List.length_map, List.length_range]; exact hl) (by rw [List.length_map, List.length_range]; omega), map_at hl, nI_add, x108 (by omega) (by omega) (by omega), Option.bind_some]
theorem x27 {M : CT} {s l N : Nat} (h : RO z t q T Q) (tz : TZ T) (hs : s < (T.1 8).length) (hN : l < N) (hN12 : N ≤ 12) (h300 : lk ≤ 300) (hB : WB T Q lk N 0 (M.1 7) (M.1 8)) : zden L (d + 4) 27 [.ref 4, .int (nI s), .int (nI l)] (putM z M) = some (nI (hitZ T Q lk s l), putM z M) := by
  have wl := wdZ_le tz hs
  have z2 := tz.2.1
  have z1 := tz.1
  obtain ⟨b1, b2, b3, b4⟩ := hB
  have bit : ∀ v, ((M.1 7).getD v 0).testBit l = (decide (v < lk) && way T Q l lk v) := by
    intro v
    by_cases hv : v < lk
    · rw [b3 v hv l]
      have : ¬ l = N := by omega
      simp [hN, this, hv]
    · rw [gDn (by omega), Nat.zero_testBit]
      simp [hv]
  have cs : ∀ i, (List.range (i + 1)).countP (fun i => decide ((T.1 8).getD s 0 + i < lk) && way T Q l lk ((T.1 8).getD s 0 + i)) = (List.range i).countP (fun i => decide ((T.1 8).getD s 0 + i < lk) && way T Q l lk ((T.1 8).getD s 0 + i)) + (if (decide ((T.1 8).getD s 0 + i < lk) && way T Q l lk ((T.1 8).getD s 0 + i)) = true then 1 else 0) := by
    intro i
    rw [List.range_succ, List.countP_append, List.countP_cons, List.countP_nil, Nat.zero_add]
  have mono : ∀ r i, i + r = wdZ T s → (List.range i).countP (fun i => decide ((T.1 8).getD s 0 + i < lk) && way T Q l lk ((T.1 8).getD s 0 + i)) ≤ (List.range (wdZ T s)).countP (fun i => decide ((T.1 8).getD s 0 + i < lk) && way T Q l lk ((T.1 8).getD s 0 + i)) := by
    intro r
    induction r with
    | zero => intro i hi; rw [show i = wdZ T s by omega]; exact Nat.le_refl _
    | succ r ih =>
      intro i hi
      have := ih (i + 1) (by omega)
      rw [cs] at this
      omega
  have loop : ∀ (r i : Nat), i + r = wdZ T s → (List.range i).countP (fun i => decide ((T.1 8).getD s 0 + i < lk) && way T Q l lk ((T.1 8).getD s 0 + i)) ≤ 3 → xruns (O2 L) (zden L (d + 3)) 27 30 [.ref 4, .int (nI s), .int (nI l), .int (nI ((T.1 8).getD s 0)), .int (nI ((T.1 8).getD s 0 + wdZ T s)), .int (nI ((List.range i).countP (fun i => decide ((T.1 8).getD s 0 + i < lk) && way T Q l lk ((T.1 8).getD s 0 + i)))), .int (nI ((T.1 8).getD s 0 + i))] [] (putM z M) = some (nI (hitZ T Q lk s l), putM z M) := by
    intro r
    induction r with
    | zero =>
      intro i hi hc
      have : i = wdZ T s := by omega
      subst this
      rw [B27_30, iL (by omega) (by omega), if_pos (Nat.le_refl _), B27_65]
      unfold hitZ
      rw [Nat.min_eq_right hc]
    | succ r ih =>
      intro i hi hc
      rw [B27_30, iL (by omega) (by omega), if_neg (by omega), B27_37, iL (by omega) (by omega)]
      by_cases c3 : 3 ≤ (List.range i).countP (fun i => decide ((T.1 8).getD s 0 + i < lk) && way T Q l lk ((T.1 8).getD s 0 + i))
      · have m := mono (r + 1) i hi
        have e : (List.range i).countP (fun i => decide ((T.1 8).getD s 0 + i < lk) && way T Q l lk ((T.1 8).getD s 0 + i)) = hitZ T Q lk s l := by
          unfold hitZ
          rw [Nat.min_eq_left (by omega)]
          omega
        rw [if_pos c3, B27_65, e]
      · rw [if_neg c3, B27_43, J4_9, Option.bind_some, X7h (by omega) (by omega) (by omega), Option.bind_some, bit, iB]
        have cs' := cs i
        by_cases c : (decide ((T.1 8).getD s 0 + i < lk) && way T Q l lk ((T.1 8).getD s 0 + i)) = true
        · rw [if_pos c] at cs'
          rw [if_pos c, B27_56, nI_add, ← cs', B27_59, nI_add]
          exact ih (i + 1) (by omega) (by omega)
        · rw [if_neg c] at cs'
          have cs' : (List.range (i + 1)).countP (fun i => decide ((T.1 8).getD s 0 + i < lk) && way T Q l lk ((T.1 8).getD s 0 + i)) = (List.range i).countP (fun i => decide ((T.1 8).getD s 0 + i < lk) && way T Q l lk ((T.1 8).getD s 0 + i)) := cs'
          rw [if_neg c, ← cs', B27_59, nI_add]
          exact ih (i + 1) (by omega) (by omega)
  rw [N27 _ _ _ ob4, B27_0, XP0 h, Option.bind_some, R6_8 h.1, Option.bind_some, XT8g h, Option.bind_some, zget_map hs (by omega), XP0 h, Option.bind_some, x76 h tz hs, Option.bind_some, nI_add]
  exact loop (wdZ T s) 0 (by omega) (Nat.zero_le _)
theorem x26 {M : CT} {li : Nat → Bool} (h : RO z t q T Q) (tz : TZ T) (n12 : (Q.1 6).length ≤ 12) (h300 : lk ≤ 300) (hB : WB T Q lk (Q.1 6).length 0 (M.1 7) (M.1 8)) (h0 : M.1 0 = (List.range (Q.1 6).length).map (fun l => cntW T Q l lk lk)) (h1 : M.1 1 = (List.range (Q.1 6).length).map (fun l => bN (li l))) :
    zden L (d + 5) 26 [.ref 4] (putM z M) = some (0, putM z (va_up M.1 5 ((List.range (T.1 8).length).map (scoZ T Q li lk)), M.2)) := by
  have z1 := tz.1
  have z2 := tz.2.1
  have inner : ∀ (r l s : Nat) (A : List Nat), s < (T.1 8).length → l + r = (Q.1 6).length → xruns (O2 L) (zden L (d + 4)) 26 24 [.ref 4, .int (nI s), .int (nI (sumZ T Q li lk s l)), .int (nI l)] [] (putM z (va_up M.1 5 A, M.2)) = xruns (O2 L) (zden L (d + 4)) 26 68 [.ref 4, .int (nI s), .int (nI (sumZ T Q li lk s (Q.1 6).length)), .int (nI (Q.1 6).length)] [] (putM z (va_up M.1 5 A, M.2)) := by
    intro r
    induction r with
    | zero =>
      intro l s A hs hl
      have : l = (Q.1 6).length := by omega
      subst this
      rw [B26_24, XP1 h, Option.bind_some, x38 h, Option.bind_some, iL (by omega) (by omega), if_pos (Nat.le_refl _)]
    | succ r ih =>
      intro l s A hs hl
      have ll : l < (Q.1 6).length := by omega
      have bl := bN_le (li l)
      have cw := cntW_le T Q l lk lk
      have e : sumZ T Q li lk s (l + 1) = sumZ T Q li lk s l + (if li l = true then 1000 / (1 + cntW T Q l lk lk) * hitZ T Q lk s l else 0) := rfl
      rw [B26_24, XP1 h, Option.bind_some, x38 h, Option.bind_some, iL (by omega) (by omega), if_neg (by omega), B26_35, J4_3, Option.bind_some, X1g, Option.bind_some]
      show (if zget ((M.1 1).map nI) (nI l) = nI 1 then _ else _) = _
      rw [h1, zget_map (by rw [List.length_map, List.length_range]; exact ll) (by rw [List.length_map, List.length_range]; omega), map_at ll, iE (by omega) (by omega)]
      by_cases c : bN (li l) = 1
      · rw [if_pos ((bN_1 _).mp c)] at e
        have hB' : WB T Q lk (Q.1 6).length 0 ((va_up M.1 5 A, M.2).1 7) ((va_up M.1 5 A, M.2).1 8) := hB
        rw [if_pos c, B26_47, x7 (M := (va_up M.1 5 A, M.2)) (n := (Q.1 6).length) (C := fun l => cntW T Q l lk lk) h0 ll n12 (by omega), Option.bind_some, x27 h tz hs ll n12 h300 hB', Option.bind_some, pk_mul, nI_add, ← e, B26_62, nI_add]
        exact ih (l + 1) s A hs (by omega)
      · rw [if_neg (by rw [(bN_0 (li l)).mp (by omega)]; decide)] at e
        have e : sumZ T Q li lk s (l + 1) = sumZ T Q li lk s l := e
        rw [if_neg c, ← e, B26_62, nI_add]
        exact ih (l + 1) s A hs (by omega)
  have outer : ∀ (r s : Nat) (v2 v3 : Value), s + r = (T.1 8).length → xruns (O2 L) (zden L (d + 4)) 26 9 [.ref 4, .int (nI s), v2, v3] [] (putM z (va_up M.1 5 ((List.range s).map (scoZ T Q li lk)), M.2)) = some (0, putM z (va_up M.1 5 ((List.range (T.1 8).length).map (scoZ T Q li lk)), M.2)) := by
    intro r
    induction r with
    | zero =>
      intro s v2 v3 hs
      have : s = (T.1 8).length := by omega
      subst this
      rw [B26_9, XP0 h, Option.bind_some, x75 h, Option.bind_some, iL (by omega) (by omega), if_pos (Nat.le_refl _), B26_99]
    | succ r ih =>
      intro s v2 v3 hs
      have sl : s < (T.1 8).length := by omega
      have su := sumZ_le T Q li lk s (Q.1 6).length
      have wl := wdZ_le tz sl
      rw [B26_9, XP0 h, Option.bind_some, x75 h, Option.bind_some, iL (by omega) (by omega), if_neg (by omega), B26_20]
      have i0 := inner (Q.1 6).length 0 s ((List.range s).map (scoZ T Q li lk)) sl (by omega)
      have i0 : xruns (O2 L) (zden L (d + 4)) 26 24 [.ref 4, .int (nI s), .int (nI 0), .int (nI 0)] [] (putM z (va_up M.1 5 ((List.range s).map (scoZ T Q li lk)), M.2)) = xruns (O2 L) (zden L (d + 4)) 26 68 [.ref 4, .int (nI s), .int (nI (sumZ T Q li lk s (Q.1 6).length)), .int (nI (Q.1 6).length)] [] (putM z (va_up M.1 5 ((List.range s).map (scoZ T Q li lk)), M.2)) := i0
      rw [i0, B26_68, J4_7, Option.bind_some, XP0 h, Option.bind_some, x76 h tz sl, Option.bind_some, pk_mul, nI_add, x108 (by omega) (by omega) (by omega), Option.bind_some, Y5a _ (by rw [List.length_map, List.length_range]; omega), Option.bind_some, nI_add]
      have := mapS (scoZ T Q li lk) s
      show xruns _ _ _ _ _ _ (putM z (va_up M.1 5 ((List.range s).map (scoZ T Q li lk) ++ [scoZ T Q li lk s]), M.2)) = _
      rw [this]
      exact ih (s + 1) _ _ (by omega)
  rw [N26 _ ob4, B26_0, J4_7, Option.bind_some, X5c, Option.bind_some]
  exact outer (T.1 8).length 0 _ _ (by omega)
end
