/-! GETTERS of the reference: matches, word, letter, leaf, passage, printed -/
theorem nI_p0 {k : Nat} (h : k < 2 ^ 31) : ¬ nI k < nI 0 := nI_pos h
section
variable {L d : Nat} {z : zS} {bs : List Nat} {Q : CT} {S : Option Sem} {lim : Nat} {f : Nat → Int32} {J : Nat → Nat → Int32} {Al : Nat → List Nat}
theorem m143 (g : GX bs Q S lim f Al) : zden L (d + 1) 143 [.ref 136] (ms z f J Al) = some (bI (tvS S (vC (cread bs).2 Q (min lim ((cread bs).2.1 1).length))), ms z f J Al) := by
  obtain ⟨r1, r2, r3, r4, r5, r6, r7⟩ := g.mr
  have mn := g.mn
  rw [N143 _ ob136, B143_0, M30r, Option.bind_some]
  cases S with
  | none => rw [mn.1 rfl, iL (by omega) (by omega), if_pos (Nat.le_refl _), B143_25, B143_26]; rfl
  | some s =>
    obtain ⟨TS, h30, n1, n200, _⟩ := mn.2 s rfl
    obtain ⟨l1, l2⟩ := r7 (by simp)
    rw [h30, iL (by omega) (by omega), if_neg (by omega), B143_7, J136_34, Option.bind_some, M30r, Option.bind_some, h30, pk_sub n1, L162 (by omega) (by omega), Option.bind_some, l2, bI_bN, iB]
    cases tvS (some s) (vC (cread bs).2 Q (min lim ((cread bs).2.1 1).length))
    · rw [if_neg (by decide), B143_25, B143_26]; rfl
    · rw [if_pos rfl, B143_21, B143_26]; rfl
theorem m144n {x : Int32} (h : x < nI 0) : zden L (d + 1) 144 [.ref 136, .int x] (ms z f J Al) = some (nI 0, ms z f J Al) := by
  rw [N144 _ _ ob136, B144_0, if_pos h, B144_16, B144_17, iO0]
theorem m144 {W k : Nat} (h14 : f 14 = nI W) (hW : W ≤ 300) (hk : k < 2 ^ 31) : zden L (d + 1) 144 [.ref 136, .int (nI k)] (ms z f J Al) = some (bI (decide (k < W)), ms z f J Al) := by
  rw [N144 _ _ ob136, B144_0, if_neg (nI_p0 hk), B144_4, M14r, Option.bind_some, h14, iL (by omega) hk]
  by_cases c : W ≤ k
  · rw [if_pos c, B144_16, B144_17, iO0, decide_eq_false (by omega)]; rfl
  · rw [if_neg c, B144_12, B144_17, iO1, decide_eq_true (by omega)]; rfl
theorem aWord_bad {T : CT} {K : KT} (tx : TXR bs T K) {lk : Nat} {x w : Int32} (h : x < nI 0 ∨ ∃ k, k < 2 ^ 31 ∧ x = nI k ∧ (T.1 1).length ≤ k) : aWord T Q S lk x w = -1 := by
  have all : ∀ l : List Nat, l.length = (T.1 1).length → zget (l.map nI) x = -1 := fun l hl => by
    rcases h with h | ⟨k, h1, rfl, h2⟩
    · exact zget_neg h
    · exact zget_out (by rw [List.length_map]; omega) h1
  unfold aWord
  rw [all _ rfl, all _ tx.l2, all _ tx.l3, all _ tx.l4, all _ tx.l7, all _ (by rw [List.length_map, List.length_range])]
  repeat (split; rfl)
  rfl
theorem m145 (g : GX bs Q S lim f Al) (x w : Int32) : zden L (d + 3) 145 [.ref 136, .int x, .int w] (ms z f J Al) = some (aWord (cread bs).2 Q S (min lim ((cread bs).2.1 1).length) x w, ms z f J Al) := by
  have tx := txr g.bb g.rd
  obtain ⟨r1, r2, r3, r4, r5, r6, r7⟩ := g.mr
  obtain ⟨_, _, mtx, _, _, _⟩ := txt_ok g.bb g.rd
  have mx := mtx f Al g.mt
  obtain ⟨m1, m2, m3, m4, m5, m6, m7, m8, m9, m10, m11, m12⟩ := g.mt
  have W300 := tx.W300
  have len := tx.len
  have k139 := tx.k139
  have a140 : Al 140 = kread bs 140 := m1 140 (by omega) (by omega)
  have a141 : Al 141 = kread bs 141 := m1 141 (by omega) (by omega)
  have h14 : f 14 = nI ((cread bs).2.1 1).length := by rw [m6, tx.kF]
  rw [N145 _ _ _ ob136, B145_0]
  rcases i_cases x with hx | ⟨k, hk, rfl⟩
  · rw [m144n hx, Option.bind_some, if_pos rfl, B145_17, aWord_bad tx (Or.inl hx)]
  rw [m144 h14 W300 hk, Option.bind_some, iB]
  by_cases c : k < ((cread bs).2.1 1).length
  · rw [decide_eq_true c, if_pos rfl, B145_8]
    obtain ⟨b1, b2, b3, b4, b5, b6, b7, b8⟩ := tx.wb k c
    have lg : ∀ l : List Nat, l.length = ((cread bs).2.1 1).length → zget (l.map nI) (nI k) = nI (l.getD k 0) := fun l hl => zget_map (by omega) (by omega)
    rcases i_cases w with hw | ⟨j, hj, rfl⟩
    · rw [if_pos hw, B145_17]
      unfold aWord
      rw [if_neg (neI hw (by omega)), if_neg (neI hw (by omega)), if_neg (neI hw (by omega)), if_neg (neI hw (by omega)), if_neg (neI hw (by omega)), if_neg (neI hw (by omega))]
    rw [if_neg (nI_p0 hj), B145_12, iL hj (by omega)]
    unfold aWord
    rw [iE hj (by omega), iE hj (by omega), iE hj (by omega), iE hj (by omega), iE hj (by omega), iE hj (by omega)]
    by_cases c5 : j ≤ 5
    · rw [if_pos c5, B145_19, iE hj (by omega)]
      by_cases c0 : j = 0
      · rw [if_pos c0, if_pos c0, B145_23, J136_6, Option.bind_some, J136_15, Option.bind_some, L147 (by rw [m8, tx.kF]; exact c) (by omega), Option.bind_some, m8, L140 (by rw [a140, tx.k140]; omega) (by omega), Option.bind_some, a140, lg _ rfl, b3]
        rfl
      rw [if_neg c0, if_neg c0, B145_35, iE hj (by omega)]
      by_cases c1 : j = 1
      · rw [if_pos c1, if_pos c1, B145_40, J136_7, Option.bind_some, J136_16, Option.bind_some, L148 (by rw [m9, tx.kL]; exact c) (by omega), Option.bind_some, m9, L141 (by rw [a141, tx.k141]; omega) (by omega), Option.bind_some, a141, lg _ tx.l2, b4]
        rfl
      rw [if_neg c1, if_neg c1, B145_52, iE hj (by omega)]
      by_cases c2 : j = 2
      · rw [if_pos c2, if_pos c2, B145_57, J136_17, Option.bind_some, L149 (by rw [m10, List.length_map, List.length_range, tx.kF]; exact c) (by omega), Option.bind_some, m10, map_at (by rw [tx.kF]; exact c), lg _ tx.l3, tx.w3 k c]
      rw [if_neg c2, if_neg c2, B145_64, iE hj (by omega)]
      by_cases c3 : j = 3
      · rw [if_pos c3, if_pos c3, B145_69, J136_18, Option.bind_some, L150 (by rw [m11, List.length_map, List.length_range, tx.kF]; exact c) (by omega), Option.bind_some, m11, map_at (by rw [tx.kF]; exact c), B145_105, lg _ tx.l4, tx.w4 k c]
      rw [if_neg c3, if_neg c3, B145_78, iE hj (by omega)]
      by_cases c4 : j = 4
      · rw [if_pos c4, if_pos c4, B145_83, J136_41, Option.bind_some, L168 (by rw [r5, List.length_map, List.length_range]; omega) (by omega), Option.bind_some, r5, map_at (by omega), lg _ (by rw [List.length_map, List.length_range]), map_at c, bI_bN, iB]
        cases mkA (cread bs).2 Q (lvS S (vC (cread bs).2 Q (min lim ((cread bs).2.1 1).length))) (min lim ((cread bs).2.1 1).length) (Q.1 6).length k
        · rw [if_neg (by decide), B145_96, B145_105]; rfl
        · rw [if_pos rfl, B145_92, B145_105]; rfl
      rw [if_neg c4, if_neg c4, B145_100, if_pos (show j = 5 by omega), m138 mx c, Option.bind_some, B145_105, lg _ tx.l7]
    · rw [if_neg c5, B145_17, if_neg (by omega), if_neg (by omega), if_neg (by omega), if_neg (by omega), if_neg (by omega), if_neg (by omega)]
  · rw [decide_eq_false c, if_neg (by decide), B145_17, aWord_bad tx (Or.inr ⟨k, hk, rfl, by omega⟩)]
theorem m146 (g : GX bs Q S lim f Al) (x i : Int32) : zden L (d + 3) 146 [.ref 136, .int x, .int i] (ms z f J Al) = some (aLet (cread bs).2 x i, ms z f J Al) := by
  have tx := txr g.bb g.rd
  obtain ⟨_, _, mtx, _, _, _⟩ := txt_ok g.bb g.rd
  have mx := mtx f Al g.mt
  have m6 := g.mt.2.2.2.2.2.1
  have W300 := tx.W300
  have l5 := tx.l5
  have h14 : f 14 = nI ((cread bs).2.1 1).length := by rw [m6, tx.kF]
  have bad : ∀ x : Int32, zget (((cread bs).2.1 7).map nI) x = -1 → aLet (cread bs).2 x i = -1 := fun x hx => by
    unfold aLet
    rw [hx]
    split
    · rfl
    · rename_i c
      rw [if_neg]
      intro q
      rcases i_cases i with r | ⟨k, hk, rfl⟩
      · exact c r
      · rw [Int32.lt_iff_toInt_lt, nI_toInt hk] at q
        have h2 : (-1 : Int32).toInt = -1 := rfl
        rw [h2] at q
        omega
  rw [N146 _ _ _ ob136, B146_0]
  rcases i_cases x with hx | ⟨k, hk, rfl⟩
  · rw [m144n hx, Option.bind_some, if_pos rfl, B146_30, B146_31, bad x (zget_neg hx)]
  rw [m144 h14 W300 hk, Option.bind_some, iB]
  by_cases c : k < ((cread bs).2.1 1).length
  · obtain ⟨b1, b2, b3, b4, b5, b6, b7, b8⟩ := tx.wb k c
    rw [decide_eq_true c, if_pos rfl, B146_8]
    unfold aLet
    by_cases c0 : i < nI 0
    · rw [if_pos c0, if_pos c0, B146_30, B146_31]
    rw [if_neg c0, if_neg c0, B146_12, m138 mx c, Option.bind_some, zget_map (by rw [tx.l7]; exact c) (by rw [tx.l7]; omega)]
    rcases i_cases i with r | ⟨j, hj, rfl⟩
    · exact absurd r c0
    rw [iL (by omega) hj, iT hj (by omega)]
    by_cases cj : ((cread bs).2.1 7).getD k 0 ≤ j
    · rw [if_pos cj, if_neg (by omega), B146_30, B146_31]
    · rw [if_neg cj, if_pos (by omega), B146_21, m137 mx c (by omega), Option.bind_some, B146_31, zget_map (by rw [tx.l6]; exact c) (by rw [tx.l6]; omega), nI_add, zget_map (by omega) (by omega)]
  · rw [decide_eq_false c, if_neg (by decide), B146_30, B146_31, bad _ (zget_out (by rw [List.length_map, tx.l7]; omega) hk)]
theorem m150 (g : GX bs Q S lim f Al) (x w : Int32) : zden L (d + 1) 150 [.ref 136, .int x, .int w] (ms z f J Al) = some (aLeaf (cread bs).2 Q S (min lim ((cread bs).2.1 1).length) x w, ms z f J Al) := by
  have tx := txr g.bb g.rd
  obtain ⟨r1, r2, r3, r4, r5, r6, r7⟩ := g.mr
  obtain ⟨ql, qf, n12, n400, qn, qs⟩ := g.qo
  have l300 := g.l300
  obtain ⟨b1, b2, b3, b4, b5, b6, b7, b8⟩ := g.mq
  unfold aLeaf
  rw [N150 _ _ _ ob136, B150_0]
  by_cases n0 : x < nI 0
  · rw [if_pos n0, if_pos n0, B150_21]
  rw [if_neg n0, if_neg n0, B150_4, M21r, Option.bind_some, b1]
  rcases i_cases x with q | ⟨k, hk, rfl⟩
  · exact absurd q n0
  rw [iL (by omega) hk, iT hk (by omega)]
  by_cases c : (Q.1 6).length ≤ k
  · rw [if_pos c, if_neg (by omega), B150_21]
  have kl : k < (Q.1 6).length := by omega
  obtain ⟨g1, g2, g3, _⟩ := qf k kl
  rw [if_neg c, if_pos kl, B150_12]
  have lr : ∀ g : Nat → Nat, zget (((List.range (Q.1 6).length).map g).map nI) (nI k) = nI (g k) := fun g => by
    rw [zget_map (by rw [List.length_map, List.length_range]; exact kl) (by rw [List.length_map, List.length_range]; omega), map_at kl]
  have cw := cntW_le (cread bs).2 Q k (min lim ((cread bs).2.1 1).length) (min lim ((cread bs).2.1 1).length)
  have b5l := (qf k kl).2.2.2.2.2.2.2.2.1
  rcases i_cases w with hw | ⟨j, hj, rfl⟩
  · rw [if_pos hw, B150_21, if_neg (neI hw (by omega)), if_neg (neI hw (by omega)), if_neg (neI hw (by omega)), if_neg (neI hw (by omega)), if_neg (neI hw (by omega)), if_neg (neI hw (by omega))]
  rw [if_neg (nI_p0 hj), B150_16, iL hj (by omega), iE hj (by omega), iE hj (by omega), iE hj (by omega), iE hj (by omega), iE hj (by omega), iE hj (by omega)]
  by_cases c5 : j ≤ 5
  · rw [if_pos c5, B150_23, iE hj (by omega)]
    by_cases c0 : j = 0
    · rw [if_pos c0, if_pos c0, B150_27, J136_23, Option.bind_some, L153 (by rw [b3]; exact g2) (by omega), Option.bind_some, b3, zget_map g2 (by omega)]
    rw [if_neg c0, if_neg c0, B150_34, iE hj (by omega)]
    by_cases c1 : j = 1
    · rw [if_pos c1, if_pos c1, B150_39, J136_24, Option.bind_some, L154 (by rw [b4]; exact g3) (by omega), Option.bind_some, b4, zget_map g3 (by omega)]
    rw [if_neg c1, if_neg c1, B150_46, iE hj (by omega)]
    by_cases c2 : j = 2
    · rw [if_pos c2, if_pos c2, B150_51, J136_37, Option.bind_some, L164 (by rw [r1, List.length_map, List.length_range]; exact kl) (by omega), Option.bind_some, r1, map_at kl, lr, bI_bN, iB]
      cases vC (cread bs).2 Q (min lim ((cread bs).2.1 1).length) k
      · rw [if_neg (by decide), B150_64, B150_65]; rfl
      · rw [if_pos rfl, B150_60, B150_65]; rfl
    rw [if_neg c2, if_neg c2, B150_66, iE hj (by omega)]
    by_cases c3 : j = 3
    · rw [if_pos c3, if_pos c3, B150_71, J136_38, Option.bind_some, L165 (by rw [r2, List.length_map, List.length_range]; exact kl) (by omega), Option.bind_some, r2, map_at kl, lr, bI_bN, iB]
      cases lvS S (vC (cread bs).2 Q (min lim ((cread bs).2.1 1).length)) k
      · rw [if_neg (by decide), B150_84, B150_114]; rfl
      · rw [if_pos rfl, B150_80, B150_114]; rfl
    rw [if_neg c3, if_neg c3, B150_88, iE hj (by omega)]
    by_cases c4 : j = 4
    · rw [if_pos c4, if_pos c4, B150_93, J136_39, Option.bind_some, L166 (by rw [r3, List.length_map, List.length_range]; exact kl) (by omega), Option.bind_some, r3, map_at kl, lr, B150_114]
    rw [if_neg c4, if_neg c4, B150_102, if_pos (show j = 5 by omega), J136_39, Option.bind_some, L166 (by rw [r3, List.length_map, List.length_range]; exact kl) (by omega), Option.bind_some, r3, map_at kl, lr, nI_add, iE (by omega) (by omega), if_neg (by omega), B150_114, pk_div (by omega) (by omega) (by omega)]
  · rw [if_neg c5, B150_21, if_neg (by omega), if_neg (by omega), if_neg (by omega), if_neg (by omega), if_neg (by omega), if_neg (by omega)]
theorem m156 {pf pl : List Nat} (h43 : f 43 = nI pf.length) (h1 : Al 170 = pf) (h2 : Al 171 = pl) (hl : pl.length = pf.length) (h9 : pf.length ≤ 9) (x w : Int32) : zden L (d + 1) 156 [.ref 136, .int x, .int w] (ms z f J Al) = some (aPas pf pl x w, ms z f J Al) := by
  unfold aPas
  rw [N156 _ _ _ ob136, B156_0]
  rcases i_cases x with hx | ⟨k, hk, rfl⟩
  · rw [if_pos hx, B156_21, zget_neg hx, zget_neg hx]
    split
    · rfl
    · split <;> rfl
  rw [if_neg (nI_p0 hk), B156_4, M43r, Option.bind_some, h43, iL (by omega) hk]
  by_cases c : pf.length ≤ k
  · rw [if_pos c, B156_21, zget_out (by rw [List.length_map]; exact c) hk, zget_out (by rw [List.length_map]; omega) hk]
    split
    · rfl
    · split <;> rfl
  rw [if_neg c, B156_12, zget_map (by omega) (by omega), zget_map (by omega) (by omega)]
  rcases i_cases w with hw | ⟨j, hj, rfl⟩
  · rw [if_pos hw, B156_21, if_neg (neI hw (by omega)), if_neg (neI hw (by omega))]
  rw [if_neg (nI_p0 hj), B156_16, iL hj (by omega), iE hj (by omega), iE hj (by omega)]
  by_cases c1 : j ≤ 1
  · rw [if_pos c1, B156_23, iE hj (by omega)]
    by_cases c0 : j = 0
    · rw [if_pos c0, if_pos c0, B156_27, J136_44, Option.bind_some, L170 (by rw [h1]; omega) (by omega), Option.bind_some, h1, B156_42]
    · rw [if_neg c0, if_neg c0, B156_36, if_pos (by omega), J136_45, Option.bind_some, L171 (by rw [h2]; omega) (by omega), Option.bind_some, h2, B156_42]
  · rw [if_neg c1, B156_21, if_neg (by omega), if_neg (by omega)]
theorem m162 {ot : List Nat} (h47 : f 47 = nI ot.length) (h1 : Al 172 = ot) (ho : ot.length ≤ 6000) (x : Int32) : zden L (d + 1) 162 [.ref 136, .int x] (ms z f J Al) = some (zget (ot.map nI) x, ms z f J Al) := by
  rw [N162 _ _ ob136, B162_0]
  rcases i_cases x with hx | ⟨k, hk, rfl⟩
  · rw [if_pos hx, B162_21, B162_22, zget_neg hx]
  rw [if_neg (nI_p0 hk), B162_4, M47r, Option.bind_some, h47, iL (by omega) hk]
  by_cases c : ot.length ≤ k
  · rw [if_pos c, B162_21, B162_22, zget_out (by rw [List.length_map]; exact c) hk]
  · rw [if_neg c, B162_12, J136_46, Option.bind_some, L172 (by rw [h1]; omega) (by omega), Option.bind_some, h1, B162_22, zget_map (by omega) (by omega)]
end
