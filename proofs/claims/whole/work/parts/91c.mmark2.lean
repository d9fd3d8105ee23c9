/-! EVALUATION: mark, in the reference -/
/-- which words begin ways, as the reference holds it -/
def CNT (T Q : CT) (lk n : Nat) (c : List Nat) : Prop := c.length = 300 * n ∧ ∀ k w, k < n → w < 300 → c.getD (300 * k + w) 0 = bN (decide (w < lk) && way T Q k lk w)
section
variable {L d : Nat} {z : zS} {T Q : CT} {lk n : Nat} {f : Nat → Int32}
theorem m142 {J : Nat → Nat → Int32} {Al : Nat → List Nat} {li : Nat → Bool} (hX : MX T Q lk n f Al) (h165 : Al 165 = (List.range (Q.1 6).length).map (fun l => bN (li l))) (hC : CNT T Q lk (Q.1 6).length (Al 167)) :
    ∃ J' Al', FrM [] [168, 169, 186, 187] f J Al f J' Al' ∧ zden L (d + 5) 142 [.ref 136] (ms z f J Al) = some (0, ms z f J' Al') ∧ Al' 168 = (List.range 300).map (fun v => bN (mkA T Q li lk (Q.1 6).length v)) ∧ Al' 169 = (List.range 300).map (fun v => bN (decide (v ≠ 0) && jdA T Q li lk (Q.1 6).length (v - 1))) := by
  have hX' := hX
  obtain ⟨hx, hq, h36, n300, hlk, tl, ql, tw, qf, n12, hm, hp⟩ := hX'
  have W300 := hx.2.1
  obtain ⟨J1, Al1, k1, k2, k3, k4⟩ := ms_forgetL (z := z) (f := f) [168, 169] J Al
  have init : ∀ (r w : Nat) (A B : List Nat) (v2 v3 v4 v5 : Value), w + r = 300 → A = List.replicate w 0 → B = List.replicate w 0 → xruns (O2 L) (zden L (d + 4)) 142 2 [.ref 136, .int (nI w), v2, v3, v4, v5] [] (ms z f J1 (va_up (va_up Al1 168 A) 169 B)) = xruns (O2 L) (zden L (d + 4)) 142 31 [.ref 136, .int (nI 0), v2, v3, v4, v5] [] (ms z f J1 (va_up (va_up Al1 168 (List.replicate 300 0)) 169 (List.replicate 300 0))) := by
    intro r
    induction r with
    | zero =>
      intro w A B v2 v3 v4 v5 hw hA hB
      have : w = 300 := by omega
      subst this
      rw [hA, hB, B142_2, iL (by omega) (by omega), if_pos (Nat.le_refl _), B142_29]
    | succ r ih =>
      intro w A B v2 v3 v4 v5 hw hA hB
      have rs : ∀ w : Nat, List.replicate w 0 ++ [0] = List.replicate (w + 1) 0 := fun w => by rw [List.replicate_succ']
      rw [B142_2, iL (by omega) (by omega), if_neg (by omega), B142_9, J136_41, Option.bind_some, iO0, up_comm _ (show (168 : Nat) ≠ 169 by omega), A168 0 (by rw [vs, hA, List.length_replicate]) (by omega), Option.bind_some, vs, vv, up_comm _ (show (169 : Nat) ≠ 168 by omega), J136_42, Option.bind_some, iO0, A169 0 (by rw [vs, hB, List.length_replicate]) (by omega), Option.bind_some, vs, vv, nI_add]
      exact ih (w + 1) (A ++ [0]) (B ++ [0]) v2 v3 v4 v5 (by omega) (by rw [hA, rs]) (by rw [hB, rs])
  -- the frame of what is written
  have XA : ∀ (J2 : Nat → Nat → Int32) (Al2 : Nat → List Nat), (∀ a, a ∉ [168, 169, 186, 187] → Al2 a = Al a) → MX T Q lk n f Al2 := fun J2 Al2 h => hX.fr (J := J2) (J' := J2) ⟨rfl, fun _ _ => rfl, fun a ha => h a (fun q => ha (by simp at q ⊢; omega))⟩
  have words : ∀ (r w l : Nat) (J2 : Nat → Nat → Int32) (Al2 : Nat → List Nat) (m j : Nat → Bool) (v3 v4 v5 : Value), l < (Q.1 6).length → w + r = lk → J2 0 = J 0 → (∀ a, a ∉ [168, 169, 186, 187] → Al2 a = Al a) → Al2 168 = (List.range 300).map (fun v => bN (m v || inA T Q l lk w v)) → Al2 169 = (List.range 300).map (fun v => bN (j v || jmA T Q l lk w v)) →
      ∃ J3 Al3 x2 v3' v4' v5', J3 0 = J 0 ∧ (∀ a, a ∉ [168, 169, 186, 187] → Al3 a = Al a) ∧ xruns (O2 L) (zden L (d + 4)) 142 53 [.ref 136, .int (nI l), .int (nI w), v3, v4, v5] [] (ms z f J2 Al2) = xruns (O2 L) (zden L (d + 4)) 142 210 [.ref 136, .int (nI l), .int x2, v3', v4', v5'] [] (ms z f J3 Al3) ∧ Al3 168 = (List.range 300).map (fun v => bN (m v || inA T Q l lk lk v)) ∧ Al3 169 = (List.range 300).map (fun v => bN (j v || jmA T Q l lk lk v)) := by
    intro r
    induction r with
    | zero =>
      intro w l J2 Al2 m j v3 v4 v5 hl hw hJ hA h8 h9
      have : w = lk := by omega
      subst this
      refine ⟨J2, Al2, nI w, v3, v4, v5, hJ, hA, ?_, h8, h9⟩
      rw [B142_53, m136 hx.1 h36 W300 n300, Option.bind_some, ← hlk, iL (by omega) (by omega), if_pos (Nat.le_refl _)]
    | succ r ih =>
      intro w l J2 Al2 m j v3 v4 v5 hl hw hJ hA h8 h9
      have wl : w < lk := by omega
      have X2 := XA J2 Al2 hA
      have e167 : Al2 167 = Al 167 := hA 167 (by simp)
      have ld : (O2 L).2.2.2.2.2.1 (ms z f J2 Al2) 1 167 (nI (300 * l + w)) = some (nI (bN (way T Q l lk w))) := by
        rw [L167 (by rw [e167, hC.1]; omega) (by omega), e167, hC.2 l w hl (by omega), decide_eq_true wl, Bool.true_and]
      have bw := bN_le (way T Q l lk w)
      have e61 : xruns (O2 L) (zden L (d + 4)) 142 53 [.ref 136, .int (nI l), .int (nI w), v3, v4, v5] [] (ms z f J2 Al2) = if bN (way T Q l lk w) = 0 then xruns (O2 L) (zden L (d + 4)) 142 76 [.ref 136, .int (nI l), .int (nI w), v3, v4, v5] [] (ms z f J2 Al2) else xruns (O2 L) (zden L (d + 4)) 142 79 [.ref 136, .int (nI l), .int (nI w), v3, v4, v5] [] (ms z f J2 Al2) := by
        rw [B142_53, m136 hx.1 h36 W300 n300, Option.bind_some, ← hlk, iL (by omega) (by omega), if_neg (by omega), B142_61, J136_40, Option.bind_some, pk_mul, nI_add, ld, Option.bind_some, iE (by omega) (by omega)]
      rw [e61]
      by_cases c : bN (way T Q l lk w) = 0
      · have c' := (bN_0 _).mp c
        rw [if_pos c, B142_76, B142_204, nI_add]
        refine ih (w + 1) l J2 Al2 m j v3 v4 v5 hl (by omega) hJ hA ?_ ?_
        · rw [h8]
          exact List.map_congr_left (fun v _ => by rw [inA_succ, c', Bool.false_and, Bool.or_false])
        · rw [h9]
          exact List.map_congr_left (fun v _ => by rw [jmA_succ, c', Bool.false_and, Bool.or_false])
      · have c' := (bN_1 (way T Q l lk w)).mp (by omega)
        obtain ⟨J3, Al3, fr3, e3, g⟩ := m140 (L := L) (d := d) (z := z) (J := J2) X2 hl wl
        obtain ⟨g1, g2, g3, g4, g5⟩ := g c'
        have hA3 : ∀ a, a ∉ [168, 169, 186, 187] → Al3 a = Al a := fun a ha => by
          rw [fr3.2.2 a (fun q => ha (by simp at q ⊢; omega)), hA a ha]
        obtain ⟨x4, v5', ev⟩ := m142_way (L := L) (d := d) (z := z) (J := J3) (Al := Al3) (m := fun v => m v || inA T Q l lk w v) (j := fun v => j v || jmA T Q l lk w v) (XA J3 Al3 hA3) hl wl c' g1 g2 g3 g4 g5 (by rw [fr3.2.2 168 (by simp), h8]) (by rw [fr3.2.2 169 (by simp), h9]) v5
        have hA4 : ∀ A B : List Nat, ∀ a, a ∉ [168, 169, 186, 187] → va_up (va_up Al3 168 A) 169 B a = Al a := fun A B a ha => by
          have h1 : a ≠ 169 := fun q => ha (by simp [q])
          have h2 : a ≠ 168 := fun q => ha (by simp [q])
          rw [vn _ _ h1, vn _ _ h2, hA3 a ha]
        obtain ⟨J5, Al5, x2, w3, w4, w5, q1, q2, q3, q4, q5⟩ := ih (w + 1) l J3 (va_up (va_up Al3 168 ((List.range 300).map (fun v => bN ((m v || inA T Q l lk w v) || inW T Q l lk w v)))) 169 ((List.range 300).map (fun v => bN ((j v || jmA T Q l lk w v) || (decide ((Q.1 6).getD l 0 = 0) && (decide (w < v) && decide (v < w + (Q.1 5).getD l 0))))))) m j (.int (bI true)) (.int x4) v5' hl (by omega) (by rw [fr3.1, hJ]) (hA4 _ _) (by
          rw [vn _ _ (by omega), vs]
          exact List.map_congr_left (fun v _ => by rw [inA_succ, c', Bool.true_and, Bool.or_assoc])) (by
          rw [vs]
          exact List.map_congr_left (fun v _ => by rw [jmA_succ, c', Bool.true_and, Bool.or_assoc]))
        refine ⟨J5, Al5, x2, w3, w4, w5, q1, q2, ?_, q4, q5⟩
        rw [if_neg c, B142_79, e3, Option.bind_some, c']
        refine Eq.trans ev ?_
        rw [B142_204, nI_add]
        exact q3
  have leaves : ∀ (r l : Nat) (J2 : Nat → Nat → Int32) (Al2 : Nat → List Nat) (v2 v3 v4 v5 : Value), l + r = (Q.1 6).length → J2 0 = J 0 → (∀ a, a ∉ [168, 169, 186, 187] → Al2 a = Al a) → Al2 168 = (List.range 300).map (fun v => bN (mkM T Q li lk l v)) → Al2 169 = (List.range 300).map (fun v => bN (jdM T Q li lk l v)) →
      ∃ J3 Al3, J3 0 = J 0 ∧ (∀ a, a ∉ [168, 169, 186, 187] → Al3 a = Al a) ∧ xruns (O2 L) (zden L (d + 4)) 142 31 [.ref 136, .int (nI l), v2, v3, v4, v5] [] (ms z f J2 Al2) = some (0, ms z f J3 Al3) ∧ Al3 168 = (List.range 300).map (fun v => bN (mkM T Q li lk (Q.1 6).length v)) ∧ Al3 169 = (List.range 300).map (fun v => bN (jdM T Q li lk (Q.1 6).length v)) := by
    intro r
    induction r with
    | zero =>
      intro l J2 Al2 v2 v3 v4 v5 hl hJ hA h8 h9
      have : l = (Q.1 6).length := by omega
      subst this
      refine ⟨J2, Al2, hJ, hA, ?_, h8, h9⟩
      rw [B142_31, M21r, Option.bind_some, hq.1, iL (by omega) (by omega), if_pos (Nat.le_refl _), B142_216]
    | succ r ih =>
      intro l J2 Al2 v2 v3 v4 v5 hl hJ hA h8 h9
      have ll : l < (Q.1 6).length := by omega
      have e165 : Al2 165 = Al 165 := hA 165 (by simp)
      have ld : (O2 L).2.2.2.2.2.1 (ms z f J2 Al2) 1 165 (nI l) = some (nI (bN (li l))) := by
        rw [L165 (by rw [e165, h165, List.length_map, List.length_range]; exact ll) (by omega), e165, h165, map_at ll]
      have bl := bN_le (li l)
      have eM : ∀ v, mkM T Q li lk (l + 1) v = (mkM T Q li lk l v || (li l && inA T Q l lk lk v)) := fun v => any_succ _ _
      have eJ : ∀ v, jdM T Q li lk (l + 1) v = (jdM T Q li lk l v || (li l && jmA T Q l lk lk v)) := fun v => any_succ _ _
      rw [B142_31, M21r, Option.bind_some, hq.1, iL (by omega) (by omega), if_neg (by omega), B142_39, J136_38, Option.bind_some, ld, Option.bind_some, iE (by omega) (by omega)]
      by_cases c : bN (li l) = 0
      · have c' := (bN_0 _).mp c
        rw [if_pos c, B142_48, B142_210, nI_add]
        refine ih (l + 1) J2 Al2 v2 v3 v4 v5 (by omega) hJ hA ?_ ?_
        · rw [h8]
          exact List.map_congr_left (fun v _ => by rw [eM, c', Bool.false_and, Bool.or_false])
        · rw [h9]
          exact List.map_congr_left (fun v _ => by rw [eJ, c', Bool.false_and, Bool.or_false])
      · have c' := (bN_1 (li l)).mp (by omega)
        obtain ⟨J3, Al3, x2, w3, w4, w5, q1, q2, q3, q4, q5⟩ := words lk 0 l J2 Al2 (mkM T Q li lk l) (jdM T Q li lk l) v3 v4 v5 ll (by omega) hJ hA (by
          rw [h8]
          exact List.map_congr_left (fun v _ => by
            have : inA T Q l lk 0 v = false := rfl
            rw [this, Bool.or_false])) (by
          rw [h9]
          exact List.map_congr_left (fun v _ => by
            have : jmA T Q l lk 0 v = false := rfl
            rw [this, Bool.or_false]))
        obtain ⟨J4, Al4, r1, r2, r3, r4, r5⟩ := ih (l + 1) J3 Al3 (.int x2) w3 w4 w5 (by omega) q1 q2 (by
          rw [q4]
          exact List.map_congr_left (fun v _ => by rw [eM, c', Bool.true_and])) (by
          rw [q5]
          exact List.map_congr_left (fun v _ => by rw [eJ, c', Bool.true_and]))
        refine ⟨J4, Al4, r1, r2, ?_, r4, r5⟩
        rw [if_neg c, B142_51, q3, B142_210, nI_add]
        exact r3
  have rep : ∀ (g : Nat → Bool), (∀ v, g v = false) → List.replicate 300 0 = (List.range 300).map (fun v => bN (g v)) := by
    intro g hg
    refine List.ext_getElem (by rw [List.length_replicate, List.length_map, List.length_range]) (fun k h1 h2 => ?_)
    rw [List.getElem_replicate, List.getElem_map, hg]; rfl
  obtain ⟨J4, Al4, r1, r2, r3, r4, r5⟩ := leaves (Q.1 6).length 0 J1 (va_up (va_up Al1 168 (List.replicate 300 0)) 169 (List.replicate 300 0)) .null .null .null .null (by omega) k2 (fun a ha => by
    have h1 : a ≠ 169 := fun q => ha (by simp [q])
    have h2 : a ≠ 168 := fun q => ha (by simp [q])
    rw [vn _ _ h1, vn _ _ h2]
    exact k4 a (by simp; omega)) (by rw [vn _ _ (by omega), vs]; exact rep _ (fun v => rfl)) (by rw [vs]; exact rep _ (fun v => rfl))
  refine ⟨J4, Al4, ⟨r1, fun _ _ => rfl, r2⟩, ?_, ?_, ?_⟩
  · have a1 : va_up (va_up Al1 168 []) 169 [] = Al1 := by
      have e1 : Al1 168 = [] := k3 168 (by simp)
      have e2 : Al1 169 = [] := k3 169 (by simp)
      have : va_up Al1 168 [] = Al1 := by rw [← e1, vi]
      rw [this]
      rw [← e2, vi]
    have i0 := init 300 0 [] [] .null .null .null .null (by omega) rfl rfl
    rw [a1] at i0
    rw [N142 _ ob136, B142_0, k1, i0]
    exact r3
  · rw [r4]
    exact List.map_congr_left (fun v _ => by rw [mkM_eq])
  · rw [r5]
    exact List.map_congr_left (fun v _ => by rw [jdM_eq])
end
