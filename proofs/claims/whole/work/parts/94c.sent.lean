/-! GETTERS: sentences -/
def aSen (T Q : CT) (S : Option Sem) (lk : Nat) (x w : Int32) : Int32 := if x < nI 0 then -1 else if x < nI (T.1 8).length then (if w = nI 0 then zget ((T.1 8).map nI) x else if w = nI 1 then zget (((List.range (T.1 8).length).map (wdZ T)).map nI) x else if w = nI 2 then zget (((List.range (T.1 8).length).map (scoZ T Q (lvS S (vC T Q lk)) lk)).map nI) x else if w = nI 3 then zget (((List.range (T.1 8).length).map (fun s => (T.1 1).getD ((T.1 8).getD s 0) 0)).map nI) x else if w = nI 4 then zget ((T.1 9).map nI) x else -1) else -1
section
variable {L d : Nat} {z : zS} {T Q : CT} {t q lk : Nat} {S : Option Sem} {M : CT} {bs : List Nat} {K : KT}
theorem x77 (h : RO z t q T Q) (tx : TXR bs T K) {k : Nat} (kl : k < (T.1 8).length) : zden L (d + 2) 77 [.ref t, .int (nI k)] (putM z M) = some (nI ((T.1 1).getD ((T.1 8).getD k 0) 0), putM z M) := by
  have W300 := tx.W300
  have l8 := tx.l8
  have w8 := tx.w8 k kl
  rw [N77 _ _ (obT h.1), B77_0, R6_1 h.1, Option.bind_some, R6_8 h.1, Option.bind_some, XT8g h, Option.bind_some, zget_map kl (by omega), XT1g h, Option.bind_some, zget_map w8 (by omega)]
theorem c95 (h : RO z t q T Q) (jr : JR T Q S lk M) (tx : TXR bs T K) (tz : TZ T) (x w : Int32) : zden L (d + 4) 95 [.ref 1, .int x, .int w] (putM z M) = some (aSen T Q S lk x w, putM z M) := by
  obtain ⟨j16, j0, j1, jB, j2, j9, j3, j4, j5, tr, j12, jt⟩ := jr
  have W300 := tx.W300
  have l8 := tx.l8
  unfold aSen
  rw [N95 _ _ _ ob1, B95_0]
  by_cases n0 : x < nI 0
  · rw [if_pos n0, if_pos n0, B95_18]
  rw [if_neg n0, if_neg n0, B95_4, J1_1, Option.bind_some, XP0 h, Option.bind_some, x75 h, Option.bind_some]
  by_cases n1 : x < nI (T.1 8).length
  · rw [if_pos n1, if_pos n1, B95_20]
    rcases i_cases x with q | ⟨k, hk, rfl⟩
    · exact absurd q n0
    have kl : k < (T.1 8).length := (nI_ltI hk (by omega)).mp n1
    have w8 := tx.w8 k kl
    have lr : ∀ g : Nat → Nat, zget (((List.range (T.1 8).length).map g).map nI) (nI k) = nI (g k) := fun g => by
      rw [zget_map (by rw [List.length_map, List.length_range]; exact kl) (by rw [List.length_map, List.length_range]; omega), map_at kl]
    by_cases c0 : w = nI 0
    · rw [if_pos c0, if_pos c0, B95_56, J1_1, Option.bind_some, XP0 h, Option.bind_some, R6_8 h.1, Option.bind_some, XT8g h, Option.bind_some]
    rw [if_neg c0, if_neg c0]
    by_cases c1 : w = nI 1
    · rw [if_pos c1, if_pos c1, B95_71, J1_1, Option.bind_some, XP0 h, Option.bind_some, x76 h tz kl, Option.bind_some, lr]
    rw [if_neg c1, if_neg c1]
    by_cases c2 : w = nI 2
    · rw [if_pos c2, if_pos c2, B95_83, J1_1, Option.bind_some, J4_7, Option.bind_some, X5g, Option.bind_some, j5]
    rw [if_neg c2, if_neg c2]
    by_cases c3 : w = nI 3
    · rw [if_pos c3, if_pos c3, B95_95, J1_1, Option.bind_some, XP0 h, Option.bind_some, x77 h tx kl, Option.bind_some, lr]
    rw [if_neg c3, if_neg c3]
    by_cases c4 : w = nI 4
    · rw [if_pos c4, if_pos c4, B95_107, J1_1, Option.bind_some, XP0 h, Option.bind_some, R6_9 h.1, Option.bind_some, XT9g h, Option.bind_some]
    rw [if_neg c4, if_neg c4, B95_122]
  rw [if_neg n1, if_neg n1, B95_18]
end
section
variable {L d : Nat} {z : zS} {bs : List Nat} {Q : CT} {S : Option Sem} {lim : Nat} {f : Nat → Int32} {J : Nat → Nat → Int32} {Al : Nat → List Nat}
/-- where sentences begin, in the reference -/
theorem zf_at (g : GX bs Q S lim f Al) {s : Nat} (hs : s < ((cread bs).2.1 8).length) : (Al 151).length = ((cread bs).2.1 8).length + 1 ∧ (Al 151).getD s 0 = ((cread bs).2.1 8).getD s 0 ∧ (Al 151).getD (s + 1) 0 = ((cread bs).2.1 8).getD s 0 + wdZ (cread bs).2 s := by
  have tx := txr g.bb g.rd
  have to := txt_ok g.bb g.rd
  have m12 := g.mt.2.2.2.2.2.2.2.2.2.2.2
  rw [m12, ← to.2.2.2.2.2, tx.kF]
  refine ⟨by rw [List.length_append]; rfl, getD_l hs, ?_⟩
  have wl := wdZ_le to.1.2.1 hs
  unfold wdZ at wl ⊢
  by_cases c : s + 1 < ((cread bs).2.1 8).length
  · have := tx.s8 s c
    rw [getD_l c, if_pos c]
    omega
  · have := tx.w8 s hs
    rw [getD_r (by omega), if_neg c]
    omega
theorem m147 (g : GX bs Q S lim f Al) {s : Nat} (hs : s < ((cread bs).2.1 8).length) : zden L (d + 1) 147 [.ref 136, .int (nI s)] (ms z f J Al) = some (nI (scoZ (cread bs).2 Q (lvS S (vC (cread bs).2 Q (min lim ((cread bs).2.1 1).length))) (min lim ((cread bs).2.1 1).length) s), ms z f J Al) := by
  have tx := txr g.bb g.rd
  have to := txt_ok g.bb g.rd
  have wl := wdZ_le to.1.2.1 hs
  obtain ⟨z1, z2, z3⟩ := zf_at g hs
  obtain ⟨r1, r2, r3, r4, r5, r6, r7⟩ := g.mr
  have n12 := g.qo.2.2.1
  have l300 := g.l300
  have b1 := g.mq.1
  have W300 := tx.W300
  have l8 := tx.l8
  generalize hT : (cread bs).2 = T at *
  generalize hlk : min lim (T.1 1).length = lk at *
  generalize hli : lvS S (vC T Q lk) = li at *
  have cs : ∀ l i, (List.range (i + 1)).countP (fun i => decide ((T.1 8).getD s 0 + i < lk) && way T Q l lk ((T.1 8).getD s 0 + i)) = (List.range i).countP (fun i => decide ((T.1 8).getD s 0 + i < lk) && way T Q l lk ((T.1 8).getD s 0 + i)) + bN (decide ((T.1 8).getD s 0 + i < lk) && way T Q l lk ((T.1 8).getD s 0 + i)) := by
    intro l i
    rw [List.range_succ, List.countP_append, List.countP_cons, List.countP_nil, Nat.zero_add]
    rfl
  have cl : ∀ l i, (List.range i).countP (fun i => decide ((T.1 8).getD s 0 + i < lk) && way T Q l lk ((T.1 8).getD s 0 + i)) ≤ i := by
    intro l i
    have := List.countP_le_length (p := fun i => decide ((T.1 8).getD s 0 + i < lk) && way T Q l lk ((T.1 8).getD s 0 + i)) (l := List.range i)
    rw [List.length_range] at this
    exact this
  have inner : ∀ (x2 x3 : Int32) (l : Nat), l < (Q.1 6).length → ∀ (r i : Nat), i + r = wdZ T s → xruns (O2 L) (zden L d) 147 54 [.ref 136, .int (nI s), .int x2, .int x3, .int (nI l), .int (nI ((List.range i).countP (fun i => decide ((T.1 8).getD s 0 + i < lk) && way T Q l lk ((T.1 8).getD s 0 + i)))), .int (nI ((T.1 8).getD s 0 + i))] [] (ms z f J Al) = xruns (O2 L) (zden L d) 147 100 [.ref 136, .int (nI s), .int x2, .int x3, .int (nI l), .int (nI ((List.range (wdZ T s)).countP (fun i => decide ((T.1 8).getD s 0 + i < lk) && way T Q l lk ((T.1 8).getD s 0 + i)))), .int (nI ((T.1 8).getD s 0 + wdZ T s))] [] (ms z f J Al) := by
    intro x2 x3 l hl r
    induction r with
    | zero =>
      intro i hi
      have : i = wdZ T s := by omega
      subst this
      rw [B147_54, J136_20, Option.bind_some, nI_add, L151 (by omega) (by omega), Option.bind_some, z3, iL (by omega) (by omega), if_pos (Nat.le_refl _)]
    | succ r ih =>
      intro i hi
      have cnt := r4.2 l ((T.1 8).getD s 0 + i) hl (by omega)
      have cl0 := cl l i
      rw [B147_54, J136_20, Option.bind_some, nI_add, L151 (by omega) (by omega), Option.bind_some, z3, iL (by omega) (by omega), if_neg (by omega), B147_67, J136_40, Option.bind_some, pk_mul, nI_add, L167 (by rw [r4.1]; omega) (by omega), Option.bind_some, cnt]
      have cs' := cs l i
      cases hb : decide ((T.1 8).getD s 0 + i < lk) && way T Q l lk ((T.1 8).getD s 0 + i)
      · rw [hb] at cs'
        rw [if_pos (show nI (bN false) = nI 0 from rfl), B147_90, B147_91, nI_add, nI_add, show (List.range i).countP (fun i => decide ((T.1 8).getD s 0 + i < lk) && way T Q l lk ((T.1 8).getD s 0 + i)) + 0 = (List.range (i + 1)).countP (fun i => decide ((T.1 8).getD s 0 + i < lk) && way T Q l lk ((T.1 8).getD s 0 + i)) from cs'.symm]
        exact ih (i + 1) (by omega)
      · rw [hb] at cs'
        rw [if_neg (by decide), B147_86, B147_91, nI_add, nI_add, show (List.range i).countP (fun i => decide ((T.1 8).getD s 0 + i < lk) && way T Q l lk ((T.1 8).getD s 0 + i)) + 1 = (List.range (i + 1)).countP (fun i => decide ((T.1 8).getD s 0 + i < lk) && way T Q l lk ((T.1 8).getD s 0 + i)) from cs'.symm]
        exact ih (i + 1) (by omega)
  have outer : ∀ (r l : Nat) (v5 v6 : Value), l + r = (Q.1 6).length → xruns (O2 L) (zden L d) 147 21 [.ref 136, .int (nI s), .int (nI (sumZ T Q li lk s l)), .int (nI (wdZ T s)), .int (nI l), v5, v6] [] (ms z f J Al) = some (nI (scoZ T Q li lk s), ms z f J Al) := by
    intro r
    induction r with
    | zero =>
      intro l v5 v6 hl
      have : l = (Q.1 6).length := by omega
      subst this
      have su := sumZ_le T Q li lk s (Q.1 6).length
      rw [B147_21, M21r, Option.bind_some, b1, iL (by omega) (by omega), if_pos (Nat.le_refl _), B147_135, nI_add, iE (by omega) (by omega), if_neg (by omega), pk_mul, pk_div (by omega) (by omega) (by omega)]
      rfl
    | succ r ih =>
      intro l v5 v6 hl
      have ll : l < (Q.1 6).length := by omega
      have e : sumZ T Q li lk s (l + 1) = sumZ T Q li lk s l + (if li l = true then 1000 / (1 + cntW T Q l lk lk) * hitZ T Q lk s l else 0) := rfl
      have cw := cntW_le T Q l lk lk
      rw [B147_21, M21r, Option.bind_some, b1, iL (by omega) (by omega), if_neg (by omega), B147_30, J136_38, Option.bind_some, L165 (by rw [r2, List.length_map, List.length_range]; exact ll) (by omega), Option.bind_some, r2, map_at ll, bI_bN, iB]
      by_cases c : li l = true
      · rw [if_pos c] at e
        rw [if_pos c, B147_43, J136_20, Option.bind_some, L151 (by omega) (by omega), Option.bind_some, z2]
        have i0 := inner (nI (sumZ T Q li lk s l)) (nI (wdZ T s)) l ll (wdZ T s) 0 (by omega)
        have i0 : xruns (O2 L) (zden L d) 147 54 [.ref 136, .int (nI s), .int (nI (sumZ T Q li lk s l)), .int (nI (wdZ T s)), .int (nI l), .int (nI 0), .int (nI ((T.1 8).getD s 0))] [] (ms z f J Al) = _ := i0
        have ct := cl l (wdZ T s)
        rw [i0, B147_100, J136_39, Option.bind_some, L166 (by rw [r3, List.length_map, List.length_range]; exact ll) (by omega), Option.bind_some, r3, map_at ll, nI_add, iE (by omega) (by omega), if_neg (by omega), iL (by omega) (by omega), pk_div (by omega) (by omega) (by omega)]
        by_cases c3 : (List.range (wdZ T s)).countP (fun i => decide ((T.1 8).getD s 0 + i < lk) && way T Q l lk ((T.1 8).getD s 0 + i)) ≤ 3
        · have hh : hitZ T Q lk s l = (List.range (wdZ T s)).countP (fun i => decide ((T.1 8).getD s 0 + i < lk) && way T Q l lk ((T.1 8).getD s 0 + i)) := Nat.min_eq_right c3
          rw [if_pos c3, B147_124, ← hh, B147_126, pk_mul, nI_add, ← e, B147_129, nI_add]
          exact ih (l + 1) _ _ (by omega)
        · have hh : hitZ T Q lk s l = 3 := Nat.min_eq_left (by omega)
          rw [hh] at e
          rw [if_neg c3, B147_120, B147_126, pk_mul, nI_add, ← e, B147_129, nI_add]
          exact ih (l + 1) _ _ (by omega)
      · rw [if_neg c] at e
        have e : sumZ T Q li lk s (l + 1) = sumZ T Q li lk s l := e
        rw [if_neg c, B147_40, ← e, B147_129, nI_add]
        exact ih (l + 1) _ _ (by omega)
  rw [N147 _ _ ob136, B147_0, J136_20, Option.bind_some, nI_add, L151 (by omega) (by omega), Option.bind_some, Option.bind_some, L151 (by omega) (by omega), Option.bind_some, z3, z2, pk_sub (by omega), show (T.1 8).getD s 0 + wdZ T s - (T.1 8).getD s 0 = wdZ T s by omega]
  exact outer (Q.1 6).length 0 _ _ (by omega)
theorem m148_loop (h4 : (Al 139).length ≤ 1000) (h5 : (Al 141).length = (Al 139).length) (x1 : Int32) : ∀ n, n ≤ (Al 139).length → (∃ i, i < n ∧ (Al 139).getD i 0 ≠ 32) → (∀ i, (Al 139).getD i 0 < 2 ^ 31) → xruns (O2 L) (zden L d) 148 35 [.ref 136, .int x1, .int (nI (n - 1))] [] (ms z f J Al) = some (nI (nbE (fun i => (Al 139).getD i 0) (fun i => (Al 141).getD i 0) n), ms z f J Al) := by
  intro n
  induction n with
  | zero => intro _ h _; obtain ⟨i, hi, _⟩ := h; omega
  | succ n ih =>
    intro hn hx hc
    have c1 := hc n
    rw [show n + 1 - 1 = n by omega, B148_35, J136_5, Option.bind_some, L139 (by omega) (by omega), Option.bind_some, iE c1 (by omega)]
    unfold nbE
    by_cases c : (Al 139).getD n 0 = 32
    · obtain ⟨i, hi, hne⟩ := hx
      have : i ≠ n := fun e => hne (e ▸ c)
      rw [if_pos c, if_pos c, B148_46, nI_m1 (by omega)]
      exact ih (by omega) ⟨i, by omega, hne⟩ hc
    · rw [if_neg c, if_neg c, B148_52, J136_7, Option.bind_some, L141 (by omega) (by omega), Option.bind_some]
theorem m148 (g : GX bs Q S lim f Al) {s : Nat} (hs : s < ((cread bs).2.1 8).length) : zden L (d + 1) 148 [.ref 136, .int (nI s)] (ms z f J Al) = some (nI (((cread bs).2.1 9).getD s 0), ms z f J Al) := by
  have tx := txr g.bb g.rd
  have to := txt_ok g.bb g.rd
  obtain ⟨m1, m2, m3, m4, m5, m6, m7, m8, m9, m10, m11, m12⟩ := g.mt
  obtain ⟨z1, z2, z3⟩ := zf_at g hs
  have a139 : Al 139 = kread bs 139 := m1 139 (by omega) (by omega)
  have a141 : Al 141 = kread bs 141 := m1 141 (by omega) (by omega)
  have W300 := tx.W300
  have len := tx.len
  have k139 := tx.k139
  have k141 := tx.k141
  have l8 := tx.l8
  have w8 := tx.w8 s hs
  have h19 : f 19 = nI ((cread bs).2.1 8).length := by rw [m7, ← to.2.2.2.2.2]
  have hc : ∀ i, (Al 139).getD i 0 < 2 ^ 31 := fun i => by
    rw [a139]
    by_cases c : i < (kread bs 139).length
    · rw [gD c]
      have := kread_ch bs _ (List.getElem_mem c)
      omega
    · rw [gDn (by omega)]; omega
  have lp := m148_loop (L := L) (d := d) (z := z) (f := f) (J := J) (Al := Al) (by rw [a139]; omega) (by rw [a141, a139]; exact k141) (nI s)
  -- a letter of the sentence's first word is no blank
  obtain ⟨b1, b2, b3, b4, b5, b6, b7, b8⟩ := tx.wb _ w8
  have nb : (Al 139).getD ((wF (kread bs)).getD (((cread bs).2.1 8).getD s 0) 0) 0 ≠ 32 := by
    intro q
    have := b8 _ (Nat.le_refl _) b1
    unfold chK at this
    rw [a139] at q
    rw [q] at this
    revert this
    decide
  have fin : nbE (fun i => (Al 139).getD i 0) (fun i => (Al 141).getD i 0) = nbE (chK (kread bs)) (enK (kread bs)) := by
    rw [a139, a141]; rfl
  rw [N148 _ _ ob136, B148_0, M19r, Option.bind_some, h19, nI_add, iL (by omega) (by omega), tx.w9 s hs, ← fin]
  by_cases c : s + 1 < ((cread bs).2.1 8).length
  · have w8' := tx.w8 (s + 1) c
    have so := tx.s8 s c
    obtain ⟨y1, y2, y3⟩ := zf_at g c
    -- words in order
    have ord : ∀ (r a : Nat), a + 1 + r < ((cread bs).2.1 1).length → (wL (kread bs)).getD a 0 < (wF (kread bs)).getD (a + 1 + r) 0 := by
      intro r
      induction r with
      | zero => intro a ha; exact tx.ww a ha
      | succ r ih =>
        intro a ha
        have := ih a (by omega)
        have h2 := tx.ww (a + 1 + r) ha
        have h3 := (tx.wb (a + 1 + r) (by omega)).1
        rw [show a + 1 + (r + 1) = a + 1 + r + 1 by omega]
        omega
    have o := ord (((cread bs).2.1 8).getD (s + 1) 0 - ((cread bs).2.1 8).getD s 0 - 1) (((cread bs).2.1 8).getD s 0) (by omega)
    rw [show ((cread bs).2.1 8).getD s 0 + 1 + (((cread bs).2.1 8).getD (s + 1) 0 - ((cread bs).2.1 8).getD s 0 - 1) = ((cread bs).2.1 8).getD (s + 1) 0 by omega] at o
    have y4 := (tx.wb _ w8').2.1
    have y5 := (tx.wb _ w8').1
    rw [if_neg (by omega), if_pos c, B148_10, J136_15, Option.bind_some, J136_20, Option.bind_some, nI_add, L151 (by omega) (by omega), Option.bind_some, y2, L147 (by rw [m8, tx.kF]; exact w8') (by omega), Option.bind_some, m8, B148_34, pk_sub (by omega)]
    exact lp _ (by rw [a139]; omega) ⟨_, by omega, nb⟩ hc
  · rw [if_pos (by omega), if_neg c, B148_28, M4r, Option.bind_some, m3, B148_34, pk_sub (by omega)]
    exact lp _ (by rw [a139]; omega) ⟨_, by omega, nb⟩ hc
theorem m149 (g : GX bs Q S lim f Al) (x w : Int32) : zden L (d + 2) 149 [.ref 136, .int x, .int w] (ms z f J Al) = some (aSen (cread bs).2 Q S (min lim ((cread bs).2.1 1).length) x w, ms z f J Al) := by
  have tx := txr g.bb g.rd
  have to := txt_ok g.bb g.rd
  obtain ⟨m1, m2, m3, m4, m5, m6, m7, m8, m9, m10, m11, m12⟩ := g.mt
  have W300 := tx.W300
  have len := tx.len
  have k139 := tx.k139
  have l8 := tx.l8
  have a140 : Al 140 = kread bs 140 := m1 140 (by omega) (by omega)
  have h19 : f 19 = nI ((cread bs).2.1 8).length := by rw [m7, ← to.2.2.2.2.2]
  unfold aSen
  rw [N149 _ _ _ ob136, B149_0]
  by_cases n0 : x < nI 0
  · rw [if_pos n0, if_pos n0, B149_21]
  rw [if_neg n0, if_neg n0, B149_4, M19r, Option.bind_some, h19]
  rcases i_cases x with q | ⟨k, hk, rfl⟩
  · exact absurd q n0
  rw [iL (by omega) hk, iT hk (by omega)]
  by_cases c : ((cread bs).2.1 8).length ≤ k
  · rw [if_pos c, if_neg (by omega), B149_21]
  have kl : k < ((cread bs).2.1 8).length := by omega
  obtain ⟨z1, z2, z3⟩ := zf_at g kl
  have w8 := tx.w8 k kl
  obtain ⟨b1, b2, b3, b4, b5, b6, b7, b8⟩ := tx.wb _ w8
  rw [if_neg c, if_pos kl, B149_12]
  have lr : ∀ g : Nat → Nat, zget (((List.range ((cread bs).2.1 8).length).map g).map nI) (nI k) = nI (g k) := fun g => by
    rw [zget_map (by rw [List.length_map, List.length_range]; exact kl) (by rw [List.length_map, List.length_range]; omega), map_at kl]
  rcases i_cases w with hw | ⟨j, hj, rfl⟩
  · rw [if_pos hw, B149_21, if_neg (neI hw (by omega)), if_neg (neI hw (by omega)), if_neg (neI hw (by omega)), if_neg (neI hw (by omega)), if_neg (neI hw (by omega))]
  rw [if_neg (nI_p0 hj), B149_16, iL hj (by omega), iE hj (by omega), iE hj (by omega), iE hj (by omega), iE hj (by omega), iE hj (by omega)]
  by_cases c5 : j ≤ 4
  · rw [if_pos c5, B149_23, iE hj (by omega)]
    by_cases c0 : j = 0
    · rw [if_pos c0, if_pos c0, B149_27, J136_20, Option.bind_some, L151 (by omega) (by omega), Option.bind_some, z2, zget_map kl (by omega)]
    rw [if_neg c0, if_neg c0, B149_34, iE hj (by omega)]
    by_cases c1 : j = 1
    · rw [if_pos c1, if_pos c1, B149_39, J136_20, Option.bind_some, nI_add, L151 (by omega) (by omega), Option.bind_some, Option.bind_some, L151 (by omega) (by omega), Option.bind_some, z3, z2, pk_sub (by omega), lr, show ((cread bs).2.1 8).getD k 0 + wdZ (cread bs).2 k - ((cread bs).2.1 8).getD k 0 = wdZ (cread bs).2 k by omega]
    rw [if_neg c1, if_neg c1, B149_55, iE hj (by omega)]
    by_cases c2 : j = 2
    · rw [if_pos c2, if_pos c2, B149_60, m147 g kl, Option.bind_some, B149_97, lr]
    rw [if_neg c2, if_neg c2, B149_68, iE hj (by omega)]
    by_cases c3 : j = 3
    · rw [if_pos c3, if_pos c3, B149_73, J136_6, Option.bind_some, J136_15, Option.bind_some, J136_20, Option.bind_some, L151 (by omega) (by omega), Option.bind_some, z2, L147 (by rw [m8, tx.kF]; exact w8) (by omega), Option.bind_some, m8, L140 (by rw [a140, tx.k140]; omega) (by omega), Option.bind_some, a140, B149_97, lr, b3]
      rfl
    rw [if_neg c3, if_neg c3, B149_92, if_pos (show j = 4 by omega), m148 g kl, Option.bind_some, B149_97, zget_map (by rw [tx.l9]; exact kl) (by rw [tx.l9]; omega)]
  · rw [if_neg c5, B149_21, if_neg (by omega), if_neg (by omega), if_neg (by omega), if_neg (by omega), if_neg (by omega)]
end
