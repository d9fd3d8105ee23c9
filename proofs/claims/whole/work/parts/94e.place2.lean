/-! GETTERS: places and counts -/
def mkZ (bs : List Nat) (Q : CT) (S : Option Sem) (lim : Nat) : Nat → Bool := mkA (cread bs).2 Q (lvS S (vC (cread bs).2 Q (min lim ((cread bs).2.1 1).length))) (min lim ((cread bs).2.1 1).length) (Q.1 6).length
def jdZ (bs : List Nat) (Q : CT) (S : Option Sem) (lim : Nat) : Nat → Bool := jdA (cread bs).2 Q (lvS S (vC (cread bs).2 Q (min lim ((cread bs).2.1 1).length))) (min lim ((cread bs).2.1 1).length) (Q.1 6).length
def pfZ (bs : List Nat) (Q : CT) (S : Option Sem) (lim : Nat) : List Nat := pfA (mkZ bs Q S lim) (jdZ bs Q S lim) (min lim ((cread bs).2.1 1).length)
def plZ (bs : List Nat) (Q : CT) (S : Option Sem) (lim : Nat) : List Nat := plA (mkZ bs Q S lim) (jdZ bs Q S lim) (min lim ((cread bs).2.1 1).length)
theorem jdmZ {bs : List Nat} {Q : CT} {S : Option Sem} {lim : Nat} (hb : BB bs) (hr : (cread bs).1 = none) (qo : QOK Q S) : JDM (mkZ bs Q S lim) (jdZ bs Q S lim) (min lim ((cread bs).2.1 1).length) := jd_mk (txt_ok hb hr).2.1 (Nat.min_le_right _ _) qo.2.1
def aCnt (bs : List Nat) (Q : CT) (S : Option Sem) (lim : Nat) (tp pf ot : List Nat) (w : Int32) : Int32 := if w = nI 0 then nI ((cread bs).2.1 1).length else if w = nI 1 then nI ((cread bs).2.1 8).length else if w = nI 2 then nI (pfZ bs Q S lim).length else if w = nI 3 then nI (Q.1 6).length else if w = nI 4 then nI pf.length else if w = nI 5 then nI ot.length else if w = nI 6 then nI (((cread bs).2.1 1).length - min lim ((cread bs).2.1 1).length) else if w = nI 7 then nI bs.length else if w = nI 8 then nI tp.length else -1
section
variable {L d : Nat} {z : zS} {bs : List Nat} {Q : CT} {S : Option Sem} {lim : Nat} {f : Nat → Int32} {J : Nat → Nat → Int32} {Al : Nat → List Nat}
theorem c97 {t q : Nat} {M : CT} (jr : JR (cread bs).2 Q S (min lim ((cread bs).2.1 1).length) M) (x w : Int32) : zden L (d + 3) 97 [.ref 1, .int x, .int w] (putM z M) = some (aPas (pfZ bs Q S lim) (plZ bs Q S lim) x w, putM z M) := by
  obtain ⟨j16, j0, j1, jB, j2, j9, j3, j4, j5, tr, j12, jt⟩ := jr
  unfold aPas
  rw [N97 _ _ _ ob1, B97_0]
  by_cases c0 : w = nI 0
  · rw [if_pos c0, if_pos c0, B97_28, J1_1, Option.bind_some, J4_5, Option.bind_some, X3g, Option.bind_some, j3]
    rfl
  rw [if_neg c0, if_neg c0]
  by_cases c1 : w = nI 1
  · rw [if_pos c1, if_pos c1, B97_40, J1_1, Option.bind_some, J4_6, Option.bind_some, X4g, Option.bind_some, j4]
    rfl
  rw [if_neg c1, if_neg c1, B97_52]
theorem c102 {t q : Nat} {M : CT} {tp pf ot : List Nat} (h : RO z t q (cread bs).2 Q) (jr : JR (cread bs).2 Q S (min lim ((cread bs).2.1 1).length) M) (tx : TXR bs (cread bs).2 (kread bs)) (l300 : lim ≤ 300) (e2 : (putM z M).1 2 = tp.map nI) (e79 : (putM z M).1 79 = pf.map nI) (e86 : (putM z M).1 86 = ot.map nI) (e6 : (putM z M).2.1 1 6 = nI lim) (w : Int32) : zden L (d + 3) 102 [.ref 1, .int w] (putM z M) = some (aCnt bs Q S lim tp pf ot w, putM z M) := by
  obtain ⟨j16, j0, j1, jB, j2, j9, j3, j4, j5, tr, j12, jt⟩ := jr
  have W300 := tx.W300
  unfold aCnt
  rw [N102 _ _ ob1, B102_0]
  by_cases c0 : w = nI 0
  · rw [if_pos c0, if_pos c0, B102_52, J1_1, Option.bind_some, XP0 h, Option.bind_some, x74 h, Option.bind_some]
  rw [if_neg c0, if_neg c0]
  by_cases c1 : w = nI 1
  · rw [if_pos c1, if_pos c1, B102_63, J1_1, Option.bind_some, XP0 h, Option.bind_some, x75 h, Option.bind_some]
  rw [if_neg c1, if_neg c1]
  by_cases c2 : w = nI 2
  · rw [if_pos c2, if_pos c2, B102_74, J1_1, Option.bind_some, J4_5, Option.bind_some, X3s, Option.bind_some, j3]
    rfl
  rw [if_neg c2, if_neg c2]
  by_cases c3 : w = nI 3
  · rw [if_pos c3, if_pos c3, B102_85, J1_1, Option.bind_some, XP1 h, Option.bind_some, x38 h, Option.bind_some]
  rw [if_neg c3, if_neg c3]
  by_cases c4 : w = nI 4
  · rw [if_pos c4, if_pos c4, B102_96, J1_2, Option.bind_some, J78_0, Option.bind_some, N55 rfl, Option.bind_some, e79, List.length_map]
  rw [if_neg c4, if_neg c4]
  by_cases c5 : w = nI 5
  · rw [if_pos c5, if_pos c5, B102_107, J1_3, Option.bind_some, J85_0, Option.bind_some, N55 rfl, Option.bind_some, e86, List.length_map]
  rw [if_neg c5, if_neg c5]
  by_cases c6 : w = nI 6
  · rw [if_pos c6, if_pos c6, B102_118, J1_1, Option.bind_some, XP0 h, Option.bind_some, x74 h, Option.bind_some, J1_6, Option.bind_some, e6]
    by_cases c : lim < ((cread bs).2.1 1).length
    · rw [if_pos ((lt_subI (by omega) (by omega) (by omega)).mpr (by omega)), pk_sub (by omega), Nat.min_eq_left (by omega)]
    · rw [if_neg (fun q => by have := (lt_subI (show ((cread bs).2.1 1).length < 2 ^ 30 by omega) (show lim < 2 ^ 30 by omega) (show 0 < 2 ^ 30 by omega)).mp q; omega), Nat.min_eq_right (by omega), Nat.sub_self]
  rw [if_neg c6, if_neg c6]
  by_cases c7 : w = nI 7
  · rw [if_pos c7, if_pos c7, B102_138, J1_1, Option.bind_some, XP0 h, Option.bind_some, R6_0 h.1, Option.bind_some, XT0s h, Option.bind_some, tx.e0]
  rw [if_neg c7, if_neg c7]
  by_cases c8 : w = nI 8
  · rw [if_pos c8, if_pos c8, B102_152, J1_0, Option.bind_some, N55 rfl, Option.bind_some, e2, List.length_map]
  rw [if_neg c8, if_neg c8, B102_160]
theorem m151 (g : GX bs Q S lim f Al) {w : Nat} (hw : w < 300) : zden L (d + 1) 151 [.ref 136, .int (nI w)] (ms z f J Al) = some (bI (bgn (mkZ bs Q S lim) (jdZ bs Q S lim) w), ms z f J Al) := by
  obtain ⟨r1, r2, r3, r4, r5, r6, r7⟩ := g.mr
  have r5 : Al 168 = (List.range 300).map (fun v => bN (mkZ bs Q S lim v)) := r5
  have r6 : Al 169 = (List.range 300).map (fun v => bN (decide (v ≠ 0) && jdZ bs Q S lim (v - 1))) := r6
  unfold bgn
  rw [N151 _ _ ob136, B151_0, J136_41, Option.bind_some, L168 (by rw [r5, List.length_map, List.length_range]; exact hw) hw, Option.bind_some, r5, map_at hw, bI_bN, iB]
  cases mkZ bs Q S lim w
  · rw [if_neg (by decide), B151_22, B151_23, iO0]; rfl
  · rw [if_pos rfl, B151_9, J136_42, Option.bind_some, L169 (by rw [r6, List.length_map, List.length_range]; exact hw) hw, Option.bind_some, r6, map_at hw, bI_bN, iB]
    cases decide (w ≠ 0) && jdZ bs Q S lim (w - 1)
    · rw [if_neg (by decide), B151_18, B151_23, iO1]; rfl
    · rw [if_pos rfl, B151_22, B151_23, iO0]; rfl
theorem m152 (g : GX bs Q S lim f Al) {k : Nat} (hk : k < (pfZ bs Q S lim).length) : zden L (d + 1) 152 [.ref 136, .int (nI ((pfZ bs Q S lim).getD k 0))] (ms z f J Al) = some (nI ((plZ bs Q S lim).getD k 0), ms z f J Al) := by
  have tx := txr g.bb g.rd
  have W300 := tx.W300
  have h14 : f 14 = nI ((cread bs).2.1 1).length := by rw [g.mt.2.2.2.2.2.1, tx.kF]
  obtain ⟨r1, r2, r3, r4, r5, r6, r7⟩ := g.mr
  have r6 : Al 169 = (List.range 300).map (fun v => bN (decide (v ≠ 0) && jdZ bs Q S lim (v - 1))) := r6
  obtain ⟨q1, q2⟩ := places (jdmZ (lim := lim) g.bb g.rd g.qo)
  obtain ⟨p1, p2, p3, p4, p5, p6⟩ := q2 k hk
  have p2 : (pfZ bs Q S lim).getD k 0 ≤ (plZ bs Q S lim).getD k 0 := p2
  have p3 : (plZ bs Q S lim).getD k 0 < min lim ((cread bs).2.1 1).length := p3
  have p4 : ∀ i, (pfZ bs Q S lim).getD k 0 ≤ i → i < (plZ bs Q S lim).getD k 0 → jdZ bs Q S lim i = true := p4
  have p5 : jdZ bs Q S lim ((plZ bs Q S lim).getD k 0) = false := p5
  have loop : ∀ (r v : Nat), (pfZ bs Q S lim).getD k 0 ≤ v → v + r = (plZ bs Q S lim).getD k 0 → xruns (O2 L) (zden L d) 152 2 [.ref 136, .int (nI ((pfZ bs Q S lim).getD k 0)), .int (nI v)] [] (ms z f J Al) = some (nI ((plZ bs Q S lim).getD k 0), ms z f J Al) := by
    intro r
    induction r with
    | zero =>
      intro v h1 h2
      have : v = (plZ bs Q S lim).getD k 0 := by omega
      subst this
      rw [B152_2, M14r, Option.bind_some, h14, nI_add, iL (by omega) (by omega)]
      by_cases c : ((cread bs).2.1 1).length ≤ (plZ bs Q S lim).getD k 0 + 1
      · rw [if_pos c, B152_29]
      · rw [if_neg c, B152_12, J136_42, Option.bind_some, nI_add, L169 (by rw [r6, List.length_map, List.length_range]; omega) (by omega), Option.bind_some, r6, map_at (by omega), Nat.add_sub_cancel, p5, Bool.and_false, if_pos (show nI (bN false) = nI 0 from rfl), B152_29]
    | succ r ih =>
      intro v h1 h2
      rw [B152_2, M14r, Option.bind_some, h14, nI_add, iL (by omega) (by omega), if_neg (by omega), B152_12, J136_42, Option.bind_some, nI_add, L169 (by rw [r6, List.length_map, List.length_range]; omega) (by omega), Option.bind_some, r6, map_at (by omega), Nat.add_sub_cancel, p4 v h1 (by omega), decide_eq_true (by omega), if_neg (show ¬ nI (bN (true && true)) = nI 0 from by decide), B152_23, nI_add]
      exact ih (v + 1) (by omega) (by omega)
  rw [N152 _ _ ob136, B152_0]
  exact loop ((plZ bs Q S lim).getD k 0 - (pfZ bs Q S lim).getD k 0) _ (Nat.le_refl _) (by omega)
theorem pfZ_all (g : GX bs Q S lim f Al) : (List.range ((cread bs).2.1 1).length).filter (bgn (mkZ bs Q S lim) (jdZ bs Q S lim)) = pfZ bs Q S lim := by
  refine filt_end (fun v hv => ?_) (Nat.min_le_right _ _)
  unfold bgn at hv
  simp only [Bool.and_eq_true] at hv
  exact (jdmZ (lim := lim) g.bb g.rd g.qo).2 v hv.1
theorem m153 (g : GX bs Q S lim f Al) : zden L (d + 2) 153 [.ref 136] (ms z f J Al) = some (nI (pfZ bs Q S lim).length, ms z f J Al) := by
  have tx := txr g.bb g.rd
  have W300 := tx.W300
  have h14 : f 14 = nI ((cread bs).2.1 1).length := by rw [g.mt.2.2.2.2.2.1, tx.kF]
  have loop : ∀ (r w : Nat), w + r = ((cread bs).2.1 1).length → xruns (O2 L) (zden L (d + 1)) 153 4 [.ref 136, .int (nI ((List.range w).filter (bgn (mkZ bs Q S lim) (jdZ bs Q S lim))).length), .int (nI w)] [] (ms z f J Al) = some (nI (pfZ bs Q S lim).length, ms z f J Al) := by
    intro r
    induction r with
    | zero =>
      intro w hw
      have : w = ((cread bs).2.1 1).length := by omega
      subst this
      rw [B153_4, M14r, Option.bind_some, h14, iL (by omega) (by omega), if_pos (Nat.le_refl _), B153_34, pfZ_all g]
    | succ r ih =>
      intro w hw
      have e := filt_succ (bgn (mkZ bs Q S lim) (jdZ bs Q S lim)) w
      have i0 := ih (w + 1) (by omega)
      rw [B153_4, M14r, Option.bind_some, h14, iL (by omega) (by omega), if_neg (by omega), B153_12, m151 g (by omega), Option.bind_some, iB]
      by_cases c : bgn (mkZ bs Q S lim) (jdZ bs Q S lim) w = true
      · rw [if_pos c] at e
        rw [e, List.length_append] at i0
        rw [if_pos c, B153_21, B153_26, nI_add, nI_add]
        exact i0
      · rw [if_neg c] at e
        rw [e] at i0
        rw [if_neg c, B153_25, B153_26, nI_add, nI_add]
        exact i0
  rw [N153 _ ob136, B153_0]
  exact loop _ 0 (Nat.zero_add _)
theorem m154 (g : GX bs Q S lim f Al) (x w : Int32) : zden L (d + 3) 154 [.ref 136, .int x, .int w] (ms z f J Al) = some (aPas (pfZ bs Q S lim) (plZ bs Q S lim) x w, ms z f J Al) := by
  have tx := txr g.bb g.rd
  have W300 := tx.W300
  have l300 := g.l300
  have hl : (pfZ bs Q S lim).length ≤ min lim ((cread bs).2.1 1).length := filt_len _ _
  have hll : (plZ bs Q S lim).length = (pfZ bs Q S lim).length := (places (jdmZ (lim := lim) g.bb g.rd g.qo)).1
  unfold aPas
  rw [N154 _ _ _ ob136, B154_0]
  rcases i_cases x with hx | ⟨k, hk, rfl⟩
  · rw [if_pos hx, B154_21, zget_neg hx, zget_neg hx]
    split
    · rfl
    · split <;> rfl
  rw [if_neg (nI_p0 hk), B154_4, m153 g, Option.bind_some, iL (by omega) hk]
  by_cases c : (pfZ bs Q S lim).length ≤ k
  · rw [if_pos c, B154_21, zget_out (by rw [List.length_map]; exact c) hk, zget_out (by rw [List.length_map]; omega) hk]
    split
    · rfl
    · split <;> rfl
  rw [if_neg c, B154_12, zget_map (by omega) (by omega), zget_map (by omega) (by omega)]
  rcases i_cases w with hw | ⟨j, hj, rfl⟩
  · rw [if_pos hw, B154_21, if_neg (neI hw (by omega)), if_neg (neI hw (by omega))]
  rw [if_neg (nI_p0 hj), B154_16, iL hj (by omega), iE hj (by omega), iE hj (by omega)]
  by_cases c1 : j ≤ 1
  · rw [if_pos c1, B154_23]
    have fin : ∀ v : Nat, (pfZ bs Q S lim).getD k 0 = v → xruns (O2 L) (zden L (d + 2)) 154 64 [.ref 136, .int (nI k), .int (nI j), .int (nI 0), .int (nI v)] [] (ms z f J Al) = some (if j = 0 then nI ((pfZ bs Q S lim).getD k 0) else if j = 1 then nI ((plZ bs Q S lim).getD k 0) else -1, ms z f J Al) := by
      intro v hv
      subst hv
      rw [B154_64, iE hj (by omega)]
      by_cases c0 : j = 0
      · rw [if_pos c0, if_pos c0, B154_68, B154_79]
      · rw [if_neg c0, if_neg c0, if_pos (by omega), B154_73, m152 g (by omega), Option.bind_some, B154_79]
    have loop : ∀ (r v : Nat), v + r = ((cread bs).2.1 1).length → ((List.range v).filter (bgn (mkZ bs Q S lim) (jdZ bs Q S lim))).length ≤ k → xruns (O2 L) (zden L (d + 2)) 154 28 [.ref 136, .int (nI k), .int (nI j), .int (nI (k - ((List.range v).filter (bgn (mkZ bs Q S lim) (jdZ bs Q S lim))).length)), .int (nI v)] [] (ms z f J Al) = some (if j = 0 then nI ((pfZ bs Q S lim).getD k 0) else if j = 1 then nI ((plZ bs Q S lim).getD k 0) else -1, ms z f J Al) := by
      intro r
      induction r with
      | zero =>
        intro v hv hc
        exfalso
        rw [show v = ((cread bs).2.1 1).length by omega, pfZ_all g] at hc
        omega
      | succ r ih =>
        intro v hv hc
        have e := filt_succ (bgn (mkZ bs Q S lim) (jdZ bs Q S lim)) v
        rw [B154_28, m151 g (by omega), Option.bind_some, iB]
        by_cases cb : bgn (mkZ bs Q S lim) (jdZ bs Q S lim) v = true
        · rw [if_pos cb] at e
          rw [if_pos cb, B154_37, iL (by omega) (by omega)]
          by_cases ck : k - ((List.range v).filter (bgn (mkZ bs Q S lim) (jdZ bs Q S lim))).length ≤ 0
          · have at' := (filt_at (p := bgn (mkZ bs Q S lim) (jdZ bs Q S lim)) cb (show v < ((cread bs).2.1 1).length by omega)).1
            rw [pfZ_all g, show ((List.range v).filter (bgn (mkZ bs Q S lim) (jdZ bs Q S lim))).length = k by omega] at at'
            rw [if_pos ck, show k - ((List.range v).filter (bgn (mkZ bs Q S lim) (jdZ bs Q S lim))).length = 0 by omega]
            exact fin v at'
          · have i0 := ih (v + 1) (by omega) (by rw [e, List.length_append]; simp only [List.length_cons, List.length_nil]; omega)
            rw [e, List.length_append] at i0
            rw [if_neg ck, B154_41, m151 g (by omega), Option.bind_some, iB, if_pos cb, B154_51, B154_56, pk_sub (by omega), nI_add, Nat.sub_sub]
            exact i0
        · rw [if_neg cb] at e
          have i0 := ih (v + 1) (by omega) (by rw [e]; exact hc)
          rw [e] at i0
          rw [if_neg cb, B154_41, m151 g (by omega), Option.bind_some, iB, if_neg cb, B154_55, B154_56, pk_sub (by omega), nI_add]
          exact i0
    exact loop _ 0 (Nat.zero_add _) (Nat.zero_le _)
  · rw [if_neg c1, B154_21, if_neg (by omega), if_neg (by omega)]
theorem m163 (g : GX bs Q S lim f Al) {tp pf ot : List Nat} (h1 : f 1 = nI tp.length) (h43 : f 43 = nI pf.length) (h47 : f 47 = nI ot.length) (w : Int32) : zden L (d + 3) 163 [.ref 136, .int w] (ms z f J Al) = some (aCnt bs Q S lim tp pf ot w, ms z f J Al) := by
  have tx := txr g.bb g.rd
  have to := txt_ok g.bb g.rd
  have W300 := tx.W300
  have l300 := g.l300
  obtain ⟨m1, m2, m3, m4, m5, m6, m7, m8, m9, m10, m11, m12⟩ := g.mt
  have h14 : f 14 = nI ((cread bs).2.1 1).length := by rw [m6, tx.kF]
  have h19 : f 19 = nI ((cread bs).2.1 8).length := by rw [m7, ← to.2.2.2.2.2]
  unfold aCnt
  rw [N163 _ _ ob136, B163_0]
  by_cases c0 : w = nI 0
  · rw [if_pos c0, if_pos c0, B163_4, M14r, Option.bind_some, h14]
  rw [if_neg c0, if_neg c0, B163_9]
  by_cases c1 : w = nI 1
  · rw [if_pos c1, if_pos c1, B163_14, M19r, Option.bind_some, h19]
  rw [if_neg c1, if_neg c1, B163_19]
  by_cases c2 : w = nI 2
  · rw [if_pos c2, if_pos c2, B163_24, m153 g, Option.bind_some]
  rw [if_neg c2, if_neg c2, B163_29]
  by_cases c3 : w = nI 3
  · rw [if_pos c3, if_pos c3, B163_34, M21r, Option.bind_some, g.mq.1]
  rw [if_neg c3, if_neg c3, B163_39]
  by_cases c4 : w = nI 4
  · rw [if_pos c4, if_pos c4, B163_44, M43r, Option.bind_some, h43]
  rw [if_neg c4, if_neg c4, B163_49]
  by_cases c5 : w = nI 5
  · rw [if_pos c5, if_pos c5, B163_54, M47r, Option.bind_some, h47]
  rw [if_neg c5, if_neg c5, B163_59]
  by_cases c6 : w = nI 6
  · rw [if_pos c6, if_pos c6, B163_65, M14r, Option.bind_some, m136 h14 g.h36 W300 l300, Option.bind_some, h14, pk_sub (Nat.min_le_right _ _)]
  rw [if_neg c6, if_neg c6, B163_75]
  by_cases c7 : w = nI 7
  · rw [if_pos c7, if_pos c7, B163_81, M3r, Option.bind_some, m2]
  rw [if_neg c7, if_neg c7, B163_86]
  by_cases c8 : w = nI 8
  · rw [if_pos c8, if_pos c8, B163_92, M1r, Option.bind_some, B163_100, h1]
  rw [if_neg c8, if_neg c8, B163_99, B163_100]
end
