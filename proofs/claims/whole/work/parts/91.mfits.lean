/-! EVALUATION: words and terms, in the reference -/
/-- what the reference holds of the text -/
def MTX (T : CT) (f : Nat → Int32) (Al : Nat → List Nat) : Prop := f 14 = nI (T.1 1).length ∧ (T.1 1).length ≤ 300 ∧ (Al 139).length ≤ 1000 ∧ ∀ w, w < (T.1 1).length → w < (Al 147).length ∧ w < (Al 148).length ∧ (Al 147).getD w 0 ≤ (Al 148).getD w 0 ∧ (Al 148).getD w 0 < (Al 139).length ∧ (Al 148).getD w 0 - (Al 147).getD w 0 + 1 = (T.1 7).getD w 0 ∧ (∀ i, i < (T.1 7).getD w 0 → (Al 139).getD ((Al 147).getD w 0 + i) 0 < 256 ∧ lo ((Al 139).getD ((Al 147).getD w 0 + i) 0) = (T.1 5).getD ((T.1 6).getD w 0 + i) 0) ∧ w < (Al 149).length ∧ (Al 149).getD w 0 = plT T w
/-- and of the query -/
def MQX (Q : CT) (f : Nat → Int32) (Al : Nat → List Nat) : Prop := f 21 = nI (Q.1 6).length ∧ Al 152 = Q.1 4 ∧ Al 153 = Q.1 5 ∧ Al 154 = Q.1 6 ∧ Al 155 = Q.1 1 ∧ Al 156 = Q.1 2 ∧ Al 157 = Q.1 3 ∧ Al 158 = Q.1 0
theorem lt_subI {a b c : Nat} (ha : a < 2 ^ 30) (hb : b < 2 ^ 30) (hc : c < 2 ^ 30) : nI c < nI a - nI b ↔ b + c < a := by
  rw [Int32.lt_iff_toInt_lt, pk_sub_toInt ha hb, nI_toInt (by omega)]
  omega
theorem subI_le {a b c : Nat} (ha : a < 2 ^ 30) (hb : b < 2 ^ 30) (hc : c < 2 ^ 30) : nI a - nI b ≤ nI c ↔ a ≤ b + c := by
  rw [Int32.le_iff_toInt_le, pk_sub_toInt ha hb, nI_toInt (by omega)]
  omega
/-- the reference's way to ask comes to the same -/
theorem fit_eq {T Q : CT} {w e : Nat} (h0 : (Q.1 3).getD e 0 ≤ 2) : fitB T Q w e = if (Q.1 3).getD e 0 = 1 then decide (ahd T Q w e = (Q.1 2).getD e 0) else if ahd T Q w e = (T.1 7).getD w 0 ∧ ahd T Q w e = (Q.1 2).getD e 0 then true else if (Q.1 3).getD e 0 = 0 then false else decide (max ((T.1 7).getD w 0) ((Q.1 2).getD e 0) - min ((T.1 7).getD w 0) ((Q.1 2).getD e 0) ≤ 1 ∧ max ((T.1 7).getD w 0) ((Q.1 2).getD e 0) - ahd T Q w e - bhd T Q w e (min ((T.1 7).getD w 0) ((Q.1 2).getD e 0) - ahd T Q w e) = 1) := by
  have a1 : ahd T Q w e ≤ min ((T.1 7).getD w 0) ((Q.1 2).getD e 0) := lead_le _ _
  have a2 : bhd T Q w e (min ((T.1 7).getD w 0) ((Q.1 2).getD e 0) - ahd T Q w e) ≤ min ((T.1 7).getD w 0) ((Q.1 2).getD e 0) - ahd T Q w e := lead_le _ _
  unfold fitB
  by_cases k2 : (Q.1 3).getD e 0 = 2
  · rw [if_pos k2, if_neg (by omega)]
    by_cases c : ahd T Q w e = (T.1 7).getD w 0 ∧ ahd T Q w e = (Q.1 2).getD e 0
    · rw [if_pos c, decide_eq_true (show max ((T.1 7).getD w 0) ((Q.1 2).getD e 0) - min ((T.1 7).getD w 0) ((Q.1 2).getD e 0) ≤ 1 by omega), decide_eq_true (by omega)]; rfl
    · rw [if_neg c, if_neg (by omega), ← Bool.decide_and]
      refine decide_eq_decide.mpr ⟨fun q => ⟨q.1, ?_⟩, fun q => ⟨q.1, by omega⟩⟩
      rcases Nat.lt_or_ge (max ((T.1 7).getD w 0) ((Q.1 2).getD e 0) - ahd T Q w e - bhd T Q w e (min ((T.1 7).getD w 0) ((Q.1 2).getD e 0) - ahd T Q w e)) 1 with z | z
      · exfalso
        -- nothing differs
        have hlt : ahd T Q w e < min ((T.1 7).getD w 0) ((Q.1 2).getD e 0) := by omega
        have en := lead_end (p := fun i => decide ((T.1 5).getD ((T.1 6).getD w 0 + i) 0 = (Q.1 0).getD ((Q.1 1).getD e 0 + i) 0)) (n := min ((T.1 7).getD w 0) ((Q.1 2).getD e 0)) hlt
        have hb : (T.1 7).getD w 0 - ahd T Q w e - 1 < bhd T Q w e (min ((T.1 7).getD w 0) ((Q.1 2).getD e 0) - ahd T Q w e) := by omega
        have at' := lead_at hb
        have e1 : (T.1 6).getD w 0 + (T.1 7).getD w 0 - 1 - ((T.1 7).getD w 0 - ahd T Q w e - 1) = (T.1 6).getD w 0 + ahd T Q w e := by omega
        have e2 : (Q.1 1).getD e 0 + (Q.1 2).getD e 0 - 1 - ((T.1 7).getD w 0 - ahd T Q w e - 1) = (Q.1 1).getD e 0 + ahd T Q w e := by omega
        rw [e1, e2] at at'
        have en : decide ((T.1 5).getD ((T.1 6).getD w 0 + ahd T Q w e) 0 = (Q.1 0).getD ((Q.1 1).getD e 0 + ahd T Q w e) 0) = false := en
        rw [en] at at'
        cases at'
      · omega
  · rw [if_neg k2]
    by_cases k1 : (Q.1 3).getD e 0 = 1
    · rw [if_pos k1, if_pos k1]
      by_cases c : ahd T Q w e = (Q.1 2).getD e 0
      · rw [decide_eq_true c, decide_eq_true (by omega)]; rfl
      · rw [decide_eq_false c, Bool.and_false]
    · rw [if_neg k1, if_neg k1]
      by_cases c : ahd T Q w e = (T.1 7).getD w 0 ∧ ahd T Q w e = (Q.1 2).getD e 0
      · rw [if_pos c, decide_eq_true (by omega), decide_eq_true c.2]; rfl
      · rw [if_neg c, if_pos (by omega)]
        by_cases c2 : ahd T Q w e = (Q.1 2).getD e 0
        · rw [decide_eq_false (by omega)]; rfl
        · rw [decide_eq_false c2, Bool.and_false]
section
variable {L d : Nat} {z : zS} {T Q : CT} {w e : Nat} {f : Nat → Int32} {J : Nat → Nat → Int32} {Al : Nat → List Nat}
theorem m136 {W n : Nat} (h14 : f 14 = nI W) (h36 : f 36 = nI n) (hW : W ≤ 300) (hn : n ≤ 300) : zden L (d + 1) 136 [.ref 136] (ms z f J Al) = some (nI (min n W), ms z f J Al) := by
  rw [N136 _ ob136, B136_0, M14r, Option.bind_some, M36r, Option.bind_some, h14, h36, iL (by omega) (by omega)]
  by_cases c : n ≤ W
  · rw [if_pos c, B136_18, M36r, Option.bind_some, B136_22, h36, Nat.min_eq_left c]
  · rw [if_neg c, B136_11, M14r, Option.bind_some, B136_22, h14, Nat.min_eq_right (by omega)]
theorem m137 (hx : MTX T f Al) (hw : w < (T.1 1).length) {i : Nat} (hi : i < (T.1 7).getD w 0) : zden L (d + 2) 137 [.ref 136, .int (nI w), .int (nI i)] (ms z f J Al) = some (nI ((T.1 5).getD ((T.1 6).getD w 0 + i) 0), ms z f J Al) := by
  obtain ⟨h14, h300, l139, hx⟩ := hx
  obtain ⟨a1, a2, a3, a4, a5, a6, a7, a8⟩ := hx w hw
  obtain ⟨b1, b2⟩ := a6 i hi
  rw [N137 _ _ _ ob136, B137_0, J136_5, Option.bind_some, J136_15, Option.bind_some, L147 a1 (by omega), Option.bind_some, nI_add, L139 (by omega) (by omega), Option.bind_some, ← ozs, m111 (fun k q => by cases q; exact b1), Option.bind_some, Option.map_some, b2]
  rfl
theorem m138 (hx : MTX T f Al) (hw : w < (T.1 1).length) : zden L (d + 1) 138 [.ref 136, .int (nI w)] (ms z f J Al) = some (nI ((T.1 7).getD w 0), ms z f J Al) := by
  obtain ⟨h14, h300, l139, hx⟩ := hx
  obtain ⟨a1, a2, a3, a4, a5, a6, a7, a8⟩ := hx w hw
  rw [N138 _ _ ob136, B138_0, J136_16, Option.bind_some, L148 a2 (by omega), Option.bind_some, J136_15, Option.bind_some, L147 a1 (by omega), Option.bind_some, pk_sub a3, nI_add, a5]
theorem m139 (hx : MTX T f Al) (hq : MQX Q f Al) (ql : QL Q) (tw : TW T w) (tl : TL T) (hw : w < (T.1 1).length) (qe : QE Q e) : zden L (d + 3) 139 [.ref 136, .int (nI w), .int (nI e)] (ms z f J Al) = some (bI (fitB T Q w e), ms z f J Al) := by
  obtain ⟨w6, w7, w5, w1, wb⟩ := tw
  obtain ⟨e1, e2, e3, e0, e4, e5⟩ := qe
  obtain ⟨l5, l6, l7⟩ := tl
  obtain ⟨q0, q1, q2, q3⟩ := ql
  have q02 := q0.2
  obtain ⟨g21, g152, g153, g154, g155, g156, g157, g158⟩ := hq
  have a1 : ahd T Q w e ≤ min ((T.1 7).getD w 0) ((Q.1 2).getD e 0) := lead_le _ _
  have a2 : bhd T Q w e (min ((T.1 7).getD w 0) ((Q.1 2).getD e 0) - ahd T Q w e) ≤ min ((T.1 7).getD w 0) ((Q.1 2).getD e 0) - ahd T Q w e := lead_le _ _
  have ld155 : (O2 L).2.2.2.2.2.1 (ms z f J Al) 0 155 (nI e) = some (nI ((Q.1 1).getD e 0)) := by rw [L155 (by rw [g155]; exact e1) (by omega), g155]
  have ld157 : (O2 L).2.2.2.2.2.1 (ms z f J Al) 0 157 (nI e) = some (nI ((Q.1 3).getD e 0)) := by rw [L157 (by rw [g157]; exact e3) (by omega), g157]
  have ld158 : ∀ i, i < (Q.1 0).length → (O2 L).2.2.2.2.2.1 (ms z f J Al) 0 158 (nI i) = some (nI ((Q.1 0).getD i 0)) := fun i hi => by rw [L158 (by rw [g158]; exact hi) (by omega), g158]
  -- the front
  have front : ∀ (r i : Nat) (v6 v7 : Value), i + r = min ((T.1 7).getD w 0) ((Q.1 2).getD e 0) → (∀ j, j < i → (T.1 5).getD ((T.1 6).getD w 0 + j) 0 = (Q.1 0).getD ((Q.1 1).getD e 0 + j) 0) → xruns (O2 L) (zden L (d + 2)) 139 17 [.ref 136, .int (nI w), .int (nI e), .int (nI ((T.1 7).getD w 0)), .int (nI ((Q.1 2).getD e 0)), .int (nI i), v6, v7] [] (ms z f J Al) = xruns (O2 L) (zden L (d + 2)) 139 60 [.ref 136, .int (nI w), .int (nI e), .int (nI ((T.1 7).getD w 0)), .int (nI ((Q.1 2).getD e 0)), .int (nI (ahd T Q w e)), v6, v7] [] (ms z f J Al) := by
    intro r
    induction r with
    | zero =>
      intro i v6 v7 hi hj
      have : ahd T Q w e = i := lead_eq (by omega) (fun j q => decide_eq_true (hj j q)) (fun q => by omega)
      rw [this, B139_17, iL (by omega) (by omega)]
      by_cases c : (T.1 7).getD w 0 ≤ i
      · rw [if_pos c]
      · rw [if_neg c, B139_23, iL (by omega) (by omega), if_pos (by omega)]
    | succ r ih =>
      intro i v6 v7 hi hj
      have c1 := wb i (by omega)
      have c2 := getD_lt q0 ((Q.1 1).getD e 0 + i)
      rw [B139_17, iL (by omega) (by omega), if_neg (by omega), B139_23, iL (by omega) (by omega), if_neg (by omega), B139_30, m137 hx hw (by omega), Option.bind_some, J136_29, Option.bind_some, J136_26, Option.bind_some, ld155, Option.bind_some, nI_add, ld158 _ (by omega), Option.bind_some, iE (by omega) (by omega)]
      by_cases c : (T.1 5).getD ((T.1 6).getD w 0 + i) 0 = (Q.1 0).getD ((Q.1 1).getD e 0 + i) 0
      · rw [if_pos c, B139_54, nI_add]
        exact ih (i + 1) v6 v7 (by omega) (fun j hj' => by
          by_cases q : j = i
          · rw [q]; exact c
          · exact hj j (by omega))
      · have : ahd T Q w e = i := lead_eq (by omega) (fun j q => decide_eq_true (hj j q)) (fun q => decide_eq_false c)
        rw [if_neg c, this]
  -- the back
  have back : ∀ (r i : Nat) (v7 : Value), i + r = min ((T.1 7).getD w 0) ((Q.1 2).getD e 0) - ahd T Q w e → (∀ j, j < i → (T.1 5).getD ((T.1 6).getD w 0 + (T.1 7).getD w 0 - 1 - j) 0 = (Q.1 0).getD ((Q.1 1).getD e 0 + (Q.1 2).getD e 0 - 1 - j) 0) → xruns (O2 L) (zden L (d + 2)) 139 112 [.ref 136, .int (nI w), .int (nI e), .int (nI ((T.1 7).getD w 0)), .int (nI ((Q.1 2).getD e 0)), .int (nI (ahd T Q w e)), .int (nI i), v7] [] (ms z f J Al) = xruns (O2 L) (zden L (d + 2)) 139 170 [.ref 136, .int (nI w), .int (nI e), .int (nI ((T.1 7).getD w 0)), .int (nI ((Q.1 2).getD e 0)), .int (nI (ahd T Q w e)), .int (nI (bhd T Q w e (min ((T.1 7).getD w 0) ((Q.1 2).getD e 0) - ahd T Q w e))), v7] [] (ms z f J Al) := by
    intro r
    induction r with
    | zero =>
      intro i v7 hi hj
      have : bhd T Q w e (min ((T.1 7).getD w 0) ((Q.1 2).getD e 0) - ahd T Q w e) = i := lead_eq (by omega) (fun j q => decide_eq_true (hj j q)) (fun q => by omega)
      rw [this, B139_112, pk_sub (by omega), iL (by omega) (by omega)]
      by_cases c : (T.1 7).getD w 0 - ahd T Q w e ≤ i
      · rw [if_pos c]
      · rw [if_neg c, B139_121, pk_sub (by omega), iL (by omega) (by omega), if_pos (by omega)]
    | succ r ih =>
      intro i v7 hi hj
      have c1 : (T.1 5).getD ((T.1 6).getD w 0 + (T.1 7).getD w 0 - 1 - i) 0 < 256 := by
        have := wb ((T.1 7).getD w 0 - 1 - i) (by omega)
        rwa [show (T.1 6).getD w 0 + ((T.1 7).getD w 0 - 1 - i) = (T.1 6).getD w 0 + (T.1 7).getD w 0 - 1 - i by omega] at this
      have c2 := getD_lt q0 ((Q.1 1).getD e 0 + (Q.1 2).getD e 0 - 1 - i)
      have e137 := m137 (L := L) (d := d) (z := z) (J := J) hx hw (i := (T.1 7).getD w 0 - 1 - i) (by omega)
      rw [show (T.1 6).getD w 0 + ((T.1 7).getD w 0 - 1 - i) = (T.1 6).getD w 0 + (T.1 7).getD w 0 - 1 - i by omega] at e137
      rw [B139_112, pk_sub (by omega), iL (by omega) (by omega), if_neg (by omega), B139_121, pk_sub (by omega), iL (by omega) (by omega), if_neg (by omega), B139_131, pk_sub (by omega), pk_sub (by omega), e137, Option.bind_some, J136_29, Option.bind_some, J136_26, Option.bind_some, ld155, Option.bind_some, nI_add, pk_sub (by omega), pk_sub (by omega), ld158 _ (by omega), Option.bind_some, iE (by omega) (by omega)]
      by_cases c : (T.1 5).getD ((T.1 6).getD w 0 + (T.1 7).getD w 0 - 1 - i) 0 = (Q.1 0).getD ((Q.1 1).getD e 0 + (Q.1 2).getD e 0 - 1 - i) 0
      · rw [if_pos c, B139_164, nI_add]
        exact ih (i + 1) v7 (by omega) (fun j hj' => by
          by_cases q : j = i
          · rw [q]; exact c
          · exact hj j (by omega))
      · have : bhd T Q w e (min ((T.1 7).getD w 0) ((Q.1 2).getD e 0) - ahd T Q w e) = i := lead_eq (by omega) (fun j q => decide_eq_true (hj j q)) (fun q => decide_eq_false c)
        rw [if_neg c, this]
  rw [fit_eq e5]
  have e60 : zden L (d + 3) 139 [.ref 136, .int (nI w), .int (nI e)] (ms z f J Al) = xruns (O2 L) (zden L (d + 2)) 139 60 [.ref 136, .int (nI w), .int (nI e), .int (nI ((T.1 7).getD w 0)), .int (nI ((Q.1 2).getD e 0)), .int (nI (ahd T Q w e)), .null, .null] [] (ms z f J Al) := by
    rw [N139 _ _ _ ob136, B139_0, m138 hx hw, Option.bind_some, J136_27, Option.bind_some, L156 (by rw [g156]; exact e2) (by omega), Option.bind_some, g156]
    exact front (min ((T.1 7).getD w 0) ((Q.1 2).getD e 0)) 0 .null .null (by omega) (fun j q => by omega)
  rw [e60, B139_60, J136_28, Option.bind_some, ld157, Option.bind_some, iE (by omega) (by omega)]
  by_cases k1 : (Q.1 3).getD e 0 = 1
  · rw [if_pos k1, if_pos k1, B139_70, iE (by omega) (by omega)]
    by_cases c : ahd T Q w e = (Q.1 2).getD e 0
    · rw [if_pos c, B139_77, B139_82, iO1, decide_eq_true c]; rfl
    · rw [if_neg c, B139_81, B139_82, iO0, decide_eq_false c]; rfl
  · rw [if_neg k1, if_neg k1, B139_83, iE (by omega) (by omega)]
    have e98 : xruns (O2 L) (zden L (d + 2)) 139 98 [.ref 136, .int (nI w), .int (nI e), .int (nI ((T.1 7).getD w 0)), .int (nI ((Q.1 2).getD e 0)), .int (nI (ahd T Q w e)), .null, .null] [] (ms z f J Al) = some (bI (if (Q.1 3).getD e 0 = 0 then false else decide (max ((T.1 7).getD w 0) ((Q.1 2).getD e 0) - min ((T.1 7).getD w 0) ((Q.1 2).getD e 0) ≤ 1 ∧ max ((T.1 7).getD w 0) ((Q.1 2).getD e 0) - ahd T Q w e - bhd T Q w e (min ((T.1 7).getD w 0) ((Q.1 2).getD e 0) - ahd T Q w e) = 1)), ms z f J Al) := by
      rw [B139_98, J136_28, Option.bind_some, ld157, Option.bind_some, iE (by omega) (by omega)]
      by_cases k0 : (Q.1 3).getD e 0 = 0
      · rw [if_pos k0, if_pos k0, B139_107, iO0]; rfl
      · rw [if_neg k0, if_neg k0, B139_109, back (min ((T.1 7).getD w 0) ((Q.1 2).getD e 0) - ahd T Q w e) 0 .null (by omega) (fun j q => by omega), B139_170, iL (by omega) (by omega)]
        have e182 : ∀ x7 : Nat, x7 = max ((T.1 7).getD w 0) ((Q.1 2).getD e 0) → xruns (O2 L) (zden L (d + 2)) 139 182 [.ref 136, .int (nI w), .int (nI e), .int (nI ((T.1 7).getD w 0)), .int (nI ((Q.1 2).getD e 0)), .int (nI (ahd T Q w e)), .int (nI (bhd T Q w e (min ((T.1 7).getD w 0) ((Q.1 2).getD e 0) - ahd T Q w e))), .null] [.int (nI x7)] (ms z f J Al) = some (bI (decide (max ((T.1 7).getD w 0) ((Q.1 2).getD e 0) - min ((T.1 7).getD w 0) ((Q.1 2).getD e 0) ≤ 1 ∧ max ((T.1 7).getD w 0) ((Q.1 2).getD e 0) - ahd T Q w e - bhd T Q w e (min ((T.1 7).getD w 0) ((Q.1 2).getD e 0) - ahd T Q w e) = 1)), ms z f J Al) := by
          intro x7 hx7
          rw [B139_182]
          simp only [lt_subI (show (T.1 7).getD w 0 < 2 ^ 30 by omega) (show (Q.1 2).getD e 0 < 2 ^ 30 by omega) (show 1 < 2 ^ 30 by omega)]
          by_cases c1 : (Q.1 2).getD e 0 + 1 < (T.1 7).getD w 0
          · rw [if_pos c1, B139_216, B139_217, iO0, decide_eq_false (fun q => by have := q.1; omega)]; rfl
          · rw [if_neg c1, B139_192]
            simp only [lt_subI (show (Q.1 2).getD e 0 < 2 ^ 30 by omega) (show (T.1 7).getD w 0 < 2 ^ 30 by omega) (show 1 < 2 ^ 30 by omega)]
            by_cases c2 : (T.1 7).getD w 0 + 1 < (Q.1 2).getD e 0
            · rw [if_pos c2, B139_216, B139_217, iO0, decide_eq_false (fun q => by have := q.1; omega)]; rfl
            · rw [if_neg c2, B139_200, pk_sub (by omega), pk_sub (by omega), iE (by omega) (by omega), hx7]
              by_cases c3 : max ((T.1 7).getD w 0) ((Q.1 2).getD e 0) - ahd T Q w e - bhd T Q w e (min ((T.1 7).getD w 0) ((Q.1 2).getD e 0) - ahd T Q w e) = 1
              · rw [if_pos c3, B139_212, B139_217, iO1, decide_eq_true ⟨by omega, c3⟩]; rfl
              · rw [if_neg c3, B139_216, B139_217, iO0, decide_eq_false (fun q => c3 q.2)]; rfl
        by_cases c : (T.1 7).getD w 0 ≤ (Q.1 2).getD e 0
        · rw [if_pos c, B139_180]
          exact e182 _ (by omega)
        · rw [if_neg c, B139_176]
          exact e182 _ (by omega)
    by_cases c1 : ahd T Q w e = (T.1 7).getD w 0
    · rw [if_pos c1, B139_89, iE (by omega) (by omega)]
      by_cases c2 : ahd T Q w e = (Q.1 2).getD e 0
      · rw [if_pos c2, if_pos ⟨c1, c2⟩, B139_96, iO1]; rfl
      · rw [if_neg c2, if_neg (fun q => c2 q.2)]
        exact e98
    · rw [if_neg c1, if_neg (fun q => c1 q.1)]
      exact e98
end
