/-! WHAT A READ TEXT AND A READ QUERY ARE LIKE -/
theorem wpl_le (bk : Nat → Nat) (F G : List Nat) : ∀ k, wpl bk F G k ≤ 11 * k := by
  intro k
  induction k with
  | zero => exact Nat.le_refl _
  | succ k ih =>
    unfold wpl
    split <;> omega
theorem wpl_lt (bk : Nat → Nat) (F G : List Nat) (k : Nat) : wpl bk F G k + 1 ≤ wpl bk F G (k + 1) := by
  conv => rhs; unfold wpl
  split <;> omega
theorem swl_lt (ch bk : Nat → Nat) (F G : List Nat) : ∀ k x, x ∈ swl ch bk F G k → x < k := by
  intro k
  induction k with
  | zero => intro x hx; cases hx
  | succ k ih =>
    intro x hx
    unfold swl at hx
    split at hx
    · rcases List.mem_append.mp hx with q | q
      · have := ih x q; omega
      · rw [List.mem_singleton.mp q]; omega
    · have := ih x hx; omega
theorem swl_sort (ch bk : Nat → Nat) (F G : List Nat) : ∀ k, (swl ch bk F G k).Pairwise (· < ·) := by
  intro k
  induction k with
  | zero => exact List.Pairwise.nil
  | succ k ih =>
    unfold swl
    split
    · rw [List.pairwise_append]
      refine ⟨ih, List.pairwise_singleton _ _, fun a ha b hb => ?_⟩
      rw [List.mem_singleton.mp hb]
      exact swl_lt ch bk F G k a ha
    · exact ih
theorem pw_lt {l : List Nat} (h : l.Pairwise (· < ·)) {i j : Nat} (hij : i < j) (hj : j < l.length) : l.getD i 0 < l.getD j 0 := by
  rw [gD hj, gD (by omega)]
  exact List.pairwise_iff_getElem.mp h i j (by omega) hj hij
/-- the reference's text -/
def MTB (bs : List Nat) (f : Nat → Int32) (Al : Nat → List Nat) : Prop := RA (kread bs) Al ∧ f 3 = nI bs.length ∧ f 4 = nI (kread bs 139).length ∧ f 10 = nI (kread bs 144).length ∧ Al 138 = bs ∧ f 14 = nI (wF (kread bs)).length ∧ f 19 = nI (sentK (kread bs) (wF (kread bs)).length).length ∧ Al 147 = wF (kread bs) ∧ Al 148 = wL (kread bs) ∧ Al 149 = (List.range (wF (kread bs)).length).map (wplK (kread bs)) ∧ Al 150 = (List.range (wF (kread bs)).length).map (fun k => (sentK (kread bs) (k + 1)).length - 1) ∧ Al 151 = sentK (kread bs) (wF (kread bs)).length ++ [(wF (kread bs)).length]
theorem cEnd_row (T : CT) {k : Nat} (hk : k ≠ 9) : (cEnd T).1 k = T.1 k := by
  unfold cEnd
  simp only
  split
  · rfl
  · exact vn _ _ hk
theorem txt_ok {bs : List Nat} (hb : BB bs) (h : (cread bs).1 = none) : TOK (cread bs).2 ∧ (∀ w, w + 1 < ((cread bs).2.1 1).length → plT (cread bs).2 w + 1 ≤ plT (cread bs).2 (w + 1)) ∧ (∀ f Al, MTB bs f Al → MTX (cread bs).2 f Al) ∧ (cread bs).2.1 0 = bs ∧ ((cread bs).2.1 1).length = (wF (kread bs)).length ∧ (cread bs).2.1 8 = sentK (kread bs) (wF (kread bs)).length := by
  obtain ⟨T, hT, wf, inv, t10, t0, _⟩ := cread_ok h
  have hb2 := hb.2
  rw [hT]
  have e1 : (cEnd T).1 1 = T.1 1 := cEnd_row T (by omega)
  have e3 : (cEnd T).1 3 = T.1 3 := cEnd_row T (by omega)
  have e5 : (cEnd T).1 5 = T.1 5 := cEnd_row T (by omega)
  have e6 : (cEnd T).1 6 = T.1 6 := cEnd_row T (by omega)
  have e7 : (cEnd T).1 7 = T.1 7 := cEnd_row T (by omega)
  have e8 : (cEnd T).1 8 = T.1 8 := cEnd_row T (by omega)
  have e0 : (cEnd T).1 0 = T.1 0 := cEnd_row T (by omega)
  obtain ⟨w1, w2, w3, w4, w6, w7, w5, w8, w9, w9', w10, wo, w11, w12, w13, w14, w15⟩ := wf
  obtain ⟨v1, v2, v3, v4, v5, v6, v7, v8, v9, v10, v11, v12, v13, v14, v15, v16⟩ := inv
  have kch := kread_ch bs
  have pl : ∀ v, v < (T.1 1).length → plT (cEnd T) v = wpl (bkK (kread bs)) (wF (kread bs)) (wL (kread bs)) v := fun v hv => by
    unfold plT
    rw [e3]; exact v8 v hv
  have chl : ∀ i, chK (kread bs) i < 256 := fun i => by
    unfold chK
    by_cases c : i < (kread bs 139).length
    · rw [gD c]
      have := kch _ (List.getElem_mem c)
      omega
    · rw [gDn (by omega)]; omega
  have so := swl_sort (chK (kread bs)) (bkK (kread bs)) (wF (kread bs)) (wL (kread bs)) (T.1 1).length
  rw [← v9] at so
  refine ⟨⟨⟨by rw [e5]; omega, by rw [e6]; omega, by rw [e7]; omega⟩, ⟨by rw [e8, e1]; exact w8, by rw [e1]; exact w1, fun s hs => ?_, fun s hs => ?_⟩, by rw [e3, e1]; exact w3, fun v hv => ?_, fun w hw => ?_⟩, fun w hw => ?_, fun f Al hM => ?_, by rw [e0, t0], by rw [e1, v1], by rw [e8, v9, v1]; rfl⟩
  · rw [e8] at hs ⊢
    rw [e1]
    have := v16 s hs
    omega
  · rw [e8] at hs ⊢
    have := pw_lt so (show s < s + 1 by omega) hs
    omega
  · rw [e1] at hv
    rw [pl v hv]
    have := wpl_le (bkK (kread bs)) (wF (kread bs)) (wL (kread bs)) v
    omega
  · rw [e1] at hw
    obtain ⟨b1, b2, b3, b4, b5, b6, b7, b8⟩ := v3 w hw
    refine ⟨by rw [e6]; omega, by rw [e7]; omega, by rw [e5, e6, e7]; exact b6, by rw [e7]; omega, fun i hi => ?_⟩
    rw [e7] at hi
    rw [e5, e6, b7 i hi]
    exact lo_lt (chl _)
  · rw [e1] at hw
    rw [pl w (by omega), pl (w + 1) hw]
    exact wpl_lt _ _ _ w
  · obtain ⟨m1, m2, m3, m4, m5, m6, m7, m8, m9, m10, m11, m12⟩ := hM
    have a139 : Al 139 = kread bs 139 := m1 139 (by omega) (by omega)
    have l139 : (kread bs 139).length ≤ bs.length := by
      have := cgo_inv (bs := bs) bs.length 0 (T0 bs) K0 (WfT0 bs) KW0 (InvK0 bs)
      by_cases c : (kread bs 139).length ≤ bs.length
      · exact c
      · exfalso
        -- the signs are at most as many as the bytes
        have : (kread bs 139).length ≤ bs.length := by
          obtain ⟨_, _, _, _, _, _, _, _, _, _, kw⟩ := m119 (L := 0) (d := 0) (z := (fun _ => [], fun _ _ => 0, fun _ _ => 0, fun _ _ => 0)) (bs := bs) (f := fun k => if k = 1 then nI bs.length else 0) (A := fun _ _ => 0) (Al := fun a => if a = 137 then bs else []) hb rfl rfl h
          exact kw.2.2.2.2.2.2.1
        omega
    refine ⟨by rw [m6, e1, v1], by rw [e1]; exact w1, by rw [a139]; omega, fun w hw => ?_⟩
    rw [e1] at hw
    obtain ⟨b1, b2, b3, b4, b5, b6, b7, b8⟩ := v3 w hw
    refine ⟨by rw [m8, v1]; exact hw, by rw [m9, v2]; exact hw, by rw [m8, m9]; exact b1, by rw [m9, a139]; exact b2, by rw [m8, m9, e7, b5], fun i hi => ?_, by rw [m10, List.length_map, List.length_range, v1]; exact hw, by rw [m10, map_at (by rw [v1]; exact hw), pl w hw]; rfl⟩
    rw [e7] at hi
    rw [a139, m8, e5, e6]
    exact ⟨chl _, (b7 i hi).symm⟩
/-- terms and leaves of a query that is read -/
def TmI (qb : List Nat) (Q : CT) : Prop := ∀ e, e < (Q.1 1).length → (Q.1 1).getD e 0 + (Q.1 2).getD e 0 ≤ qb.length ∧ 1 ≤ (Q.1 2).getD e 0 ∧ (Q.1 3).getD e 0 ≤ 2
def LfI (Q : CT) : Prop := ∀ l, l < (Q.1 4).length → (Q.1 4).getD l 0 + (Q.1 5).getD l 0 ≤ (Q.1 1).length ∧ 1 ≤ (Q.1 5).getD l 0 ∧ (Q.1 5).getD l 0 ≤ 6 ∧ (Q.1 6).getD l 0 ≤ 9
theorem getD_l {l : List Nat} {x i : Nat} (h : i < l.length) : (l ++ [x]).getD i 0 = l.getD i 0 := by
  simp [List.getD, List.getElem?_append, h]
theorem getD_r {l : List Nat} {x i : Nat} (h : i = l.length) : (l ++ [x]).getD i 0 = x := by
  subst h
  simp [List.getD]
theorem qTerm_tm {qb : List Nat} {Q : CT} (ok : qOk qb Q) (h : TmI qb Q) : TmI qb (qTerm qb Q).2 := by
  obtain ⟨h1, h2, h3, h4⟩ := ok
  have hin := wrun_in qb (Q.2 10)
  unfold qTerm
  split
  · exact h
  · split
    · exact h
    · rename_i c0 c1
      intro e he
      have k1 : (va_up (va_up (va_up Q.1 1 (Q.1 1 ++ [Q.2 10])) 2 (Q.1 2 ++ [wrun qb (Q.2 10)])) 3 (Q.1 3 ++ [qKind qb (Q.2 10 + wrun qb (Q.2 10))])) 1 = Q.1 1 ++ [Q.2 10] := rfl
      have k2 : (va_up (va_up (va_up Q.1 1 (Q.1 1 ++ [Q.2 10])) 2 (Q.1 2 ++ [wrun qb (Q.2 10)])) 3 (Q.1 3 ++ [qKind qb (Q.2 10 + wrun qb (Q.2 10))])) 2 = Q.1 2 ++ [wrun qb (Q.2 10)] := rfl
      have k3 : (va_up (va_up (va_up Q.1 1 (Q.1 1 ++ [Q.2 10])) 2 (Q.1 2 ++ [wrun qb (Q.2 10)])) 3 (Q.1 3 ++ [qKind qb (Q.2 10 + wrun qb (Q.2 10))])) 3 = Q.1 3 ++ [qKind qb (Q.2 10 + wrun qb (Q.2 10))] := rfl
      simp only [k1, k2, k3] at he ⊢
      rw [List.length_append] at he
      simp only [List.length_cons, List.length_nil] at he
      by_cases c : e < (Q.1 1).length
      · rw [getD_l c, getD_l (by omega), getD_l (by omega)]
        exact h e c
      · rw [getD_r (by omega), getD_r (by omega), getD_r (by omega)]
        refine ⟨by omega, by omega, ?_⟩
        unfold qKind
        split
        · omega
        · split <;> omega
theorem qPh_tm {qb : List Nat} : ∀ (r n : Nat) (Q : CT), qOk qb Q → TmI qb Q → TmI qb (qPh qb r n Q).2 := by
  intro r
  induction r with
  | zero => intro n Q ok h; exact h
  | succ r ih =>
    intro n Q ok h
    have hs := qSkip_ok ok
    have h' : TmI qb (qSkip qb Q) := h
    obtain ⟨t1, t2, t3, t4⟩ := qTerm_ok hs
    have ht := qTerm_tm hs h'
    unfold qPh
    split
    · exact h'
    · split
      · exact h'
      · split
        · split
          · exact ih (n + 1) _ t1 ht
          · exact ht
        · exact ht
theorem qRoom_9 {qb : List Nat} {Q : CT} {r : Nat} (h : (qRoom qb Q).1 = some r) : r ≤ 9 := by
  unfold qRoom at h
  split at h
  · split at h
    · rename_i q
      cases h
      cases hc : qb[Q.2 10 + 1]? with
      | none => rw [hc] at q; cases q
      | some c =>
        rw [hc] at q
        have q : isFg c = true := q
        unfold isFg at q
        simp only [Bool.and_eq_true, decide_eq_true_eq] at q
        rw [gDo hc]
        omega
    · cases h
  · cases h; omega
theorem qLeaf_li {qb : List Nat} {Q : CT} {c : Nat} (ok : qOk qb Q) (hc : qb[Q.2 10]? = some c) (a5 : (Q.1 5).length = (Q.1 4).length) (a6 : (Q.1 6).length = (Q.1 4).length) (h : TmI qb Q) (hl : LfI Q) (ht : (qLeaf qb Q c).1 = true) : TmI qb (qLeaf qb Q c).2 ∧ LfI (qLeaf qb Q c).2 := by
  have add : ∀ (Q' : CT) (r : Nat), qFr Q Q' → (Q.1 1).length + 1 ≤ (Q'.1 1).length → (Q'.1 1).length ≤ (Q.1 1).length + 6 → r ≤ 9 → TmI qb Q' → TmI qb (qAdd (Q.1 1).length r Q') ∧ LfI (qAdd (Q.1 1).length r Q') := by
    intro Q' r fr l1 l2 hr hT
    refine ⟨hT, fun l hl' => ?_⟩
    have k4 : (qAdd (Q.1 1).length r Q').1 4 = Q'.1 4 ++ [(Q.1 1).length] := rfl
    have k5 : (qAdd (Q.1 1).length r Q').1 5 = Q'.1 5 ++ [(Q'.1 1).length - (Q.1 1).length] := rfl
    have k6 : (qAdd (Q.1 1).length r Q').1 6 = Q'.1 6 ++ [r] := rfl
    have k1 : (qAdd (Q.1 1).length r Q').1 1 = Q'.1 1 := rfl
    rw [k4, fr.1 4 (by omega), List.length_append] at hl'
    simp only [List.length_cons, List.length_nil] at hl'
    rw [k4, k5, k6, k1, fr.1 4 (by omega), fr.1 5 (by omega), fr.1 6 (by omega)]
    by_cases cc : l < (Q.1 4).length
    · rw [getD_l cc, getD_l (by omega), getD_l (by omega)]
      obtain ⟨g1, g2, g3, g4⟩ := hl l cc
      exact ⟨by omega, g2, g3, g4⟩
    · rw [getD_r (by omega), getD_r (by omega), getD_r (by omega)]
      exact ⟨by omega, by omega, by omega, hr⟩
  obtain ⟨hp, _⟩ := List.getElem?_eq_some_iff.mp hc
  unfold qLeaf at ht ⊢
  split at ht
  · rename_i c34
    rw [if_pos c34]
    obtain ⟨p1, p2, p3, p4, p5⟩ := qPh_ok 7 0 (qAt Q (Q.2 10 + 1)) (by omega) (ok.at (by omega))
    have pt : TmI qb (qPhrase qb Q).2 := qPh_tm 7 0 _ (ok.at (by omega)) h
    split at ht
    · rename_i e1
      rw [if_pos e1]
      obtain ⟨r1, r2, r3⟩ := qRoom_ok (qb := qb) (Q := (qPhrase qb Q).2) p1
      have p5' := p5 e1
      have fr : qFr Q (qRoom qb (qPhrase qb Q).2).2 := ((qFr.at Q (Q.2 10 + 1)).trans p2).trans r2
      have rt : TmI qb (qRoom qb (qPhrase qb Q).2).2 := by
        unfold qRoom
        split
        · split
          · exact pt
          · exact pt
        · exact pt
      have e3 : ((qRoom qb (qPhrase qb Q).2).2.1 1).length = ((qPhrase qb Q).2.1 1).length := by rw [r3]
      have p1' : (Q.1 1).length + 1 ≤ ((qPhrase qb Q).2.1 1).length + 0 := p5'.1
      have p3' : ((qPhrase qb Q).2.1 1).length ≤ (Q.1 1).length + (6 - 0) := p3
      cases hr : (qRoom qb (qPhrase qb Q).2).1 with
      | none => rw [hr] at ht; cases ht
      | some r => exact add _ r fr (by omega) (by omega) (qRoom_9 hr) rt
    · cases ht
  · rename_i c34
    rw [if_neg c34]
    obtain ⟨t1, t2, t3, t4⟩ := qTerm_ok ok
    split at ht
    · rename_i e1
      rw [if_pos e1]
      have := t4 e1
      exact add _ 0 t3.1 (by omega) (by omega) (by omega) (qTerm_tm ok h)
    · cases ht
theorem qStep_li {qb : List Nat} {Q : CT} {fr : FR} {c : Nat} (w : WfQ qb Q fr) (hc : qb[Q.2 10]? = some c) (h : TmI qb Q) (hl : LfI Q) (ht : (qStep qb Q fr c).1 = true) : TmI qb (qStep qb Q fr c).2.1 ∧ LfI (qStep qb Q fr c).2.1 := by
  obtain ⟨ok, a5, a6, a4, a1, a8, a9, ch, a11, a12, a12', a13, a13', b7, b7'⟩ := w
  unfold qStep at ht ⊢
  by_cases e : Q.2 13 = 0
  · rw [if_pos e] at ht ⊢
    obtain ⟨j, i, fr1, rfl, k1, k2, k3, k4, k5, k6⟩ := dn_par ch (a13' e)
    have qJ : qJoint Q ((j + 1, i) :: fr1) c = if c = 41 then (if fr1.length = 0 then (false, Q, (j + 1, i) :: fr1) else (true, qEnd (Q.1, va_up (va_up (va_up Q.2 11 (hd fr1)) 12 (Q.2 12 - 1)) 10 (Q.2 10 + 1)) fr1, dn fr1)) else if c = 124 then (true, ((qNode Q 1 j BAD32).1, va_up (va_up (va_up Q.2 11 (Q.1 7).length) 13 1) 10 (Q.2 10 + 1)), (j + 1, (Q.1 7).length) :: fr1) else if c = 38 then (true, (Q.1, va_up (va_up Q.2 13 1) 10 (Q.2 10 + 1)), (j + 1, i) :: fr1) else (false, Q, (j + 1, i) :: fr1) := rfl
    rw [qJ] at ht ⊢
    split at ht
    · rename_i q1
      rw [if_pos q1]
      split at ht
      · cases ht
      · rename_i q2
        rw [if_neg q2]
        exact ⟨h, hl⟩
    · rename_i q1
      rw [if_neg q1]
      split at ht
      · rename_i q2
        rw [if_pos q2]
        exact ⟨h, hl⟩
      · rename_i q2
        rw [if_neg q2]
        split at ht
        · rename_i q3
          rw [if_pos q3]
          exact ⟨h, hl⟩
        · cases ht
  · rw [if_neg e] at ht ⊢
    unfold qOne at ht ⊢
    split at ht
    · rename_i q1
      rw [if_pos q1]
      split at ht
      · rename_i q2
        rw [if_pos q2]
        unfold qDeep
        by_cases q3 : c = 33
        · rw [if_pos q3]; exact ⟨h, hl⟩
        · rw [if_neg q3]; exact ⟨h, hl⟩
      · cases ht
    · rename_i q1
      rw [if_neg q1]
      split at ht
      · cases ht
      · rename_i q2
        rw [if_neg q2]
        split at ht
        · rename_i q3
          rw [if_pos q3]
          exact qLeaf_li ok hc a5 a6 h hl q3
        · cases ht
theorem qgo_li {qb : List Nat} : ∀ (r : Nat) (Q : CT) (fr : FR) (D : DD), WfQ qb Q fr → TmI qb Q → LfI Q → (qgo qb r Q fr D).1 = none → TmI qb (qgo qb r Q fr D).2.1 ∧ LfI (qgo qb r Q fr D).2.1 := by
  intro r
  induction r with
  | zero => intro Q fr D w h hl hn; cases hn
  | succ r ih =>
    intro Q fr D w h hl hn
    rw [qgo] at hn ⊢
    by_cases e : qb.length ≤ (qSkip qb Q).2 10
    · simp only [if_pos e]
      exact ⟨h, hl⟩
    · simp only [if_neg e] at hn ⊢
      have hlt : (qSkip qb Q).2 10 < qb.length := by omega
      have hc : qb[(qSkip qb Q).2 10]? = some (qb.getD ((qSkip qb Q).2 10) 0) := by rw [gD hlt]; exact List.getElem?_eq_getElem hlt
      by_cases T : (qStep qb (qSkip qb Q) fr (qb.getD ((qSkip qb Q).2 10) 0)).1 = true
      · simp only [if_pos T] at hn ⊢
        obtain ⟨w2, _⟩ := qStep_wf (qSkip_wf w) hc T
        obtain ⟨h2, hl2⟩ := qStep_li (Q := qSkip qb Q) (qSkip_wf w) hc h hl T
        exact ih _ _ _ w2 h2 hl2 hn
      · rw [if_neg T] at hn; cases hn
theorem qry_ok {bs : List Nat} (hb : BB bs) (h : (qread bs).1 = none) : QOK (qread bs).2.1 (some (finS (qread bs).2.2.2)) ∧ (qread bs).2.1.1 0 = bs.map lo ∧ ((qread bs).2.1.1 6).length = ((qread bs).2.1.1 4).length ∧ ((qread bs).2.1.1 5).length = ((qread bs).2.1.1 4).length ∧ ((qread bs).2.1.1 2).length = ((qread bs).2.1.1 1).length ∧ ((qread bs).2.1.1 3).length = ((qread bs).2.1.1 1).length := by
  obtain ⟨w, we⟩ := qread_we h
  obtain ⟨tm, lf⟩ := qgo_li _ _ _ _ (Q0_wf (bs.map lo)) (fun e he => by cases he) (fun l hl => by cases hl) h
  have tm : TmI (bs.map lo) (qread bs).2.1 := tm
  have lf : LfI (qread bs).2.1 := lf
  obtain ⟨ok, a5, a6, a4, a1, a8, a9, ch, a11, a12, a12', a13, a13', b7, b7'⟩ := w
  obtain ⟨o1, o2, o3, o4⟩ := ok
  refine ⟨⟨⟨by rw [o1]; exact BB_lo hb, by omega, by omega, by omega⟩, fun l hl => ?_, by omega, by omega, (fun q => by cases q), fun s hs => ?_⟩, o1, a6, a5, o3, o4⟩
  · rw [a6] at hl
    obtain ⟨g1, g2, g3, g4⟩ := lf l hl
    refine ⟨hl, by omega, by omega, g2, g3, g4, fun i hi => ?_, a4, by omega, by omega⟩
    obtain ⟨k1, k2, k3⟩ := tm ((((qread bs).2.1).1 4).getD l 0 + i) (by omega)
    exact ⟨by omega, by omega, by omega, by rw [o1]; exact k1, k2, k3⟩
  · cases hs
    rw [a6]
    exact we
