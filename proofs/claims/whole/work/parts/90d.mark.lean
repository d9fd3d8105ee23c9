/-! EVALUATION: marks and places, in the class -/
theorem zset_any {xs : List Nat} {i v : Nat} (hi : i < 2 ^ 31) (hl : xs.length < 2 ^ 31) : zset (xs.map nI) (nI i) (nI v) = (xs.set i v).map nI := by
  by_cases h : i < xs.length
  · exact zset_map h hl
  · rw [List.set_eq_of_length_le (by omega)]
    unfold zset
    rw [List.length_map, if_neg (nI_pos hi), if_pos (nI_le (by omega) hi)]
/-- the joints of a leaf's ways -/
def jnL (Q : CT) (l : Nat) : Nat := if (Q.1 6).getD l 0 = 0 then (Q.1 5).getD l 0 - 1 else 0
def joA (T Q : CT) (l lk u v : Nat) : Bool := (List.range u).any (fun w => way T Q l lk w && (decide (w ≤ v) && decide (v < w + jnL Q l)))
theorem joA_succ (T Q : CT) (l lk w v : Nat) : joA T Q l lk (w + 1) v = (joA T Q l lk w v || (way T Q l lk w && (decide (w ≤ v) && decide (v < w + jnL Q l)))) := any_succ _ _
def mkA (T Q : CT) (li : Nat → Bool) (lk n v : Nat) : Bool := decide (v < lk) && (List.range n).any (fun l => li l && inA T Q l lk lk v)
def jdA (T Q : CT) (li : Nat → Bool) (lk n v : Nat) : Bool := (List.range n).any (fun l => li l && joA T Q l lk lk v)
theorem set_bN {n p : Nat} {f g : Nat → Bool} (h : ∀ k, k < n → k ≠ p → f k = g k) (hp : p < n → g p = true) : ((List.range n).map (fun k => bN (f k))).set p 1 = (List.range n).map (fun k => bN (g k)) := by
  by_cases hpn : p < n
  · have := map_set (n := n) (p := p) (f := fun k => bN (f k)) (g := fun k => bN (g k)) (fun k h1 h2 => by show bN _ = bN _; rw [h k h1 h2])
    rw [hp hpn] at this
    exact this
  · rw [List.set_eq_of_length_le (by rw [List.length_map, List.length_range]; omega)]
    exact List.map_congr_left (fun k hk => by rw [h k (List.mem_range.mp hk) (by have := List.mem_range.mp hk; omega)])
section
variable {L d : Nat} {z : zS} {T Q : CT} {t q lk l W : Nat}
theorem Y9any {R : Nat → List Nat} {f : Nat → Nat} {x : List Nat} {i v : Nat} (hi : i < 2 ^ 31) (hl : x.length ≤ 400) : zden L (d + 1) 58 [.ref 68, .int (nI i), .int (nI v)] (putM z (va_up R 9 x, f)) = some (0, putM z (va_up R 9 (x.set i v), f)) := by
  rw [N58 rfl, gM9]
  simp only [vs]
  rw [zset_any hi (by omega), sM9]
  simp only [vv]
theorem x24 {M : CT} {N : Nat} {m j : Nat → Bool} (h : RO z t q T Q) (qf : QF Q l) (hN : l < N) (hN12 : N ≤ 12) (hlk : M.2 16 = lk) (h300 : lk ≤ 300) (hW : lk ≤ W) (W300 : W ≤ 300) (hB : WB T Q lk N 0 (M.1 7) (M.1 8)) (h2 : M.1 2 = (List.range W).map (fun v => bN (m v))) (h9 : M.1 9 = (List.range lk).map (fun v => bN (j v))) :
    zden L (d + 2) 24 [.ref 4, .int (nI l)] (putM z M) = some (0, putM z (va_up (va_up M.1 2 ((List.range W).map (fun v => bN (m v || (decide (v < lk) && inA T Q l lk lk v))))) 9 ((List.range lk).map (fun v => bN (j v || joA T Q l lk lk v))), M.2)) := by
  obtain ⟨f1, f2, f3, f4, f5, f6, f7, f8, f9, f10⟩ := qf
  obtain ⟨b1, b2, b3, b4⟩ := hB
  have jn6 : jnL Q l ≤ 6 := by unfold jnL; split <;> omega
  have bit7 : ∀ v, v < lk → ((M.1 7).getD v 0).testBit l = way T Q l lk v := by
    intro v hv
    rw [b3 v hv l]
    have : ¬ l = N := by omega
    simp [hN, this]
  have bit8 : ∀ v, v < lk → ((M.1 8).getD v 0).testBit l = inA T Q l lk lk v := by
    intro v hv
    rw [b4 v hv l]
    have : ¬ l = N := by omega
    simp [hN, this]
  -- joints of one word
  have inner : ∀ (r i w : Nat) (R : Nat → List Nat) (g : Nat → Bool), R 7 = M.1 7 → w < lk → i + r = jnL Q l → (way T Q l lk w = true → (∀ v, v < lk → g v = (j v || (joA T Q l lk w v || (decide (w ≤ v) && decide (v < w + i)))))) → (way T Q l lk w = false → ∀ v, v < lk → g v = (j v || joA T Q l lk w v)) →
      ∃ x4, xruns (O2 L) (zden L (d + 1)) 24 66 [.ref 4, .int (nI l), .int (nI (jnL Q l)), .int (nI w), .int (nI i)] [] (putM z (va_up R 9 ((List.range lk).map (fun v => bN (g v))), M.2)) = xruns (O2 L) (zden L (d + 1)) 24 102 [.ref 4, .int (nI l), .int (nI (jnL Q l)), .int (nI w), .int x4] [] (putM z (va_up R 9 ((List.range lk).map (fun v => bN (j v || joA T Q l lk (w + 1) v))), M.2)) := by
    intro r
    induction r with
    | zero =>
      intro i w R g hR7 hw hi hg1 hg2
      refine ⟨nI i, ?_⟩
      have : i = jnL Q l := by omega
      subst this
      rw [B24_66, iL (by omega) (by omega), if_pos (Nat.le_refl _)]
      have same : (List.range lk).map (fun v => bN (g v)) = (List.range lk).map (fun v => bN (j v || joA T Q l lk (w + 1) v)) := List.map_congr_left (fun v hv => by
        have hv := List.mem_range.mp hv
        rw [joA_succ]
        cases hy : way T Q l lk w with
        | true => rw [hg1 hy v hv, Bool.true_and]
        | false => rw [hg2 hy v hv, Bool.false_and, Bool.or_false])
      rw [same]
    | succ r ih =>
      intro i w R g hR7 hw hi hg1 hg2
      rw [B24_66, iL (by omega) (by omega), if_neg (by omega), B24_72, J4_9, Option.bind_some, X7h (M := (va_up R 9 _, M.2)) (by omega) (by show (R 7).length ≤ 400; rw [hR7]; omega) (by omega), Option.bind_some]
      show ∃ x4, (if bI (((R 7).getD w 0).testBit l) = nI 0 then _ else _) = _
      rw [hR7, bit7 w hw, iB]
      cases hy : way T Q l lk w with
      | true =>
        obtain ⟨x4, e⟩ := ih (i + 1) w R (fun v => g v || decide (v = w + i)) hR7 hw (by omega) (fun _ v hv => by
          show (g v || decide (v = w + i)) = _
          rw [hg1 hy v hv]
          have : (decide (w ≤ v) && decide (v < w + (i + 1))) = ((decide (w ≤ v) && decide (v < w + i)) || decide (v = w + i)) := by
            rw [Bool.eq_iff_iff]
            simp only [Bool.and_eq_true, Bool.or_eq_true, decide_eq_true_eq]
            omega
          rw [this, Bool.or_assoc, Bool.or_assoc]) (fun q => by rw [hy] at q; cases q)
        refine ⟨x4, ?_⟩
        rw [if_pos rfl, B24_84, J4_11, Option.bind_some, nI_add, Y9any (by omega) (by rw [List.length_map, List.length_range]; omega), Option.bind_some, nI_add, set_bN (g := fun v => g v || decide (v = w + i)) (fun k _ hne => by simp [hne]) (fun _ => by simp)]
        exact e
      | false =>
        refine ⟨nI i, ?_⟩
        rw [if_neg (by decide)]
        have same : (List.range lk).map (fun v => bN (g v)) = (List.range lk).map (fun v => bN (j v || joA T Q l lk (w + 1) v)) := List.map_congr_left (fun v hv => by
          have hv := List.mem_range.mp hv
          rw [joA_succ, hg2 hy v hv, hy, Bool.false_and, Bool.or_false])
        rw [same]
  have loop : ∀ (r w : Nat) (v4 : Value), w + r = lk → xruns (O2 L) (zden L (d + 1)) 24 34 [.ref 4, .int (nI l), .int (nI (jnL Q l)), .int (nI w), v4] [] (putM z (va_up (va_up M.1 2 ((List.range W).map (fun v => bN (m v || (decide (v < w) && inA T Q l lk lk v))))) 9 ((List.range lk).map (fun v => bN (j v || joA T Q l lk w v))), M.2)) = some (0, putM z (va_up (va_up M.1 2 ((List.range W).map (fun v => bN (m v || (decide (v < lk) && inA T Q l lk lk v))))) 9 ((List.range lk).map (fun v => bN (j v || joA T Q l lk lk v))), M.2)) := by
    intro r
    induction r with
    | zero =>
      intro w v4 hw
      have : w = lk := by omega
      subst this
      rw [B24_34, X16r, Option.bind_some]
      show (if nI (M.2 16) ≤ nI w then _ else _) = _
      rw [hlk, iL (by omega) (by omega), if_pos (Nat.le_refl _), B24_108]
    | succ r ih =>
      intro w v4 hw
      have wl : w < lk := by omega
      have dec : ∀ v, decide (v < w + 1) = (decide (v < w) || decide (v = w)) := fun v => by
        rw [Bool.eq_iff_iff]
        simp only [Bool.or_eq_true, decide_eq_true_eq]
        omega
      -- at 63, with the row of marks as it should be
      have e63 : ∀ v4, xruns (O2 L) (zden L (d + 1)) 24 63 [.ref 4, .int (nI l), .int (nI (jnL Q l)), .int (nI w), v4] [] (putM z (va_up (va_up M.1 2 ((List.range W).map (fun v => bN (m v || (decide (v < w + 1) && inA T Q l lk lk v))))) 9 ((List.range lk).map (fun v => bN (j v || joA T Q l lk w v))), M.2)) = some (0, putM z (va_up (va_up M.1 2 ((List.range W).map (fun v => bN (m v || (decide (v < lk) && inA T Q l lk lk v))))) 9 ((List.range lk).map (fun v => bN (j v || joA T Q l lk lk v))), M.2)) := by
        intro v4
        obtain ⟨x4, e⟩ := inner (jnL Q l) 0 w (va_up M.1 2 ((List.range W).map (fun v => bN (m v || (decide (v < w + 1) && inA T Q l lk lk v))))) (fun v => j v || joA T Q l lk w v) (by rw [vn _ _ (by omega)]) wl (by omega) (fun _ v _ => by
          have : (decide (w ≤ v) && decide (v < w + 0)) = false := by
            rw [Bool.eq_false_iff]
            intro q
            simp only [Bool.and_eq_true, decide_eq_true_eq] at q
            omega
          rw [this, Bool.or_false]) (fun _ v _ => rfl)
        rw [B24_63, e, B24_102, nI_add]
        exact ih (w + 1) _ (by omega)
      rw [B24_34, X16r, Option.bind_some]
      show (if nI (M.2 16) ≤ nI w then _ else _) = _
      rw [hlk, iL (by omega) (by omega), if_neg (by omega), B24_42, J4_10, Option.bind_some, X8h (M := (va_up (va_up M.1 2 _) 9 _, M.2)) (by omega) (by show (M.1 8).length ≤ 400; omega) (by omega), Option.bind_some]
      show (if bI (((M.1 8).getD w 0).testBit l) = nI 0 then _ else _) = _
      rw [bit8 w wl, iB]
      by_cases c : inA T Q l lk lk w = true
      · have set2 := set_bN (n := W) (p := w) (f := fun v => m v || (decide (v < w) && inA T Q l lk lk v)) (g := fun v => m v || (decide (v < w + 1) && inA T Q l lk lk v)) (fun k _ hne => by
          show (m k || _) = (m k || _)
          rw [dec k, decide_eq_false hne, Bool.or_false]) (fun _ => by
          show (m w || (decide (w < w + 1) && inA T Q l lk lk w)) = true
          rw [c, decide_eq_true (show w < w + 1 by omega)]; simp)
        rw [if_pos c, B24_54, J4_4, Option.bind_some, up_comm _ (show (2 : Nat) ≠ 9 by omega), Y2w (by rw [List.length_map, List.length_range]; omega) (by rw [List.length_map, List.length_range]; omega), Option.bind_some, set2, up_comm _ (show (9 : Nat) ≠ 2 by omega)]
        exact e63 _
      · have same : (List.range W).map (fun v => bN (m v || (decide (v < w) && inA T Q l lk lk v))) = (List.range W).map (fun v => bN (m v || (decide (v < w + 1) && inA T Q l lk lk v))) := List.map_congr_left (fun v hv => by
          rw [dec v]
          by_cases e : v = w
          · rw [e, show inA T Q l lk lk w = false by simpa using c, Bool.and_false, Bool.and_false]
          · rw [decide_eq_false e, Bool.or_false])
        rw [if_neg c, same]
        exact e63 _
  have start : ∀ (v2 v3 v4 : Value), xruns (O2 L) (zden L (d + 1)) 24 31 [.ref 4, .int (nI l), v2, v3, v4] [.int (nI (jnL Q l))] (putM z M) = some (0, putM z (va_up (va_up M.1 2 ((List.range W).map (fun v => bN (m v || (decide (v < lk) && inA T Q l lk lk v))))) 9 ((List.range lk).map (fun v => bN (j v || joA T Q l lk lk v))), M.2)) := by
    intro v2 v3 v4
    rw [B24_31]
    have := loop lk 0 v4 (by omega)
    have r2 : (List.range W).map (fun v => bN (m v || (decide (v < 0) && inA T Q l lk lk v))) = M.1 2 := by
      rw [h2]
      exact List.map_congr_left (fun v _ => by rw [decide_eq_false (by omega), Bool.false_and, Bool.or_false])
    have r9 : (List.range lk).map (fun v => bN (j v || joA T Q l lk 0 v)) = M.1 9 := by
      rw [h9]
      exact List.map_congr_left (fun v _ => by
        have : joA T Q l lk 0 v = false := rfl
        rw [this, Bool.or_false])
    rw [r2, r9, vi, vi] at this
    exact this
  rw [N24 _ _ ob4, B24_0, XP1 h, Option.bind_some, R3_6 h.2.1, Option.bind_some, XQ6g h, Option.bind_some, zget_map f3 (by omega), iE (by omega) (by omega)]
  by_cases c : (Q.1 6).getD l 0 = 0
  · have ej : jnL Q l = (Q.1 5).getD l 0 - 1 := if_pos c
    rw [if_pos c, B24_14, XP1 h, Option.bind_some, R3_5 h.2.1, Option.bind_some, XQ5g h, Option.bind_some, zget_map f2 (by omega), pk_sub f4, ← ej]
    exact start _ _ _
  · have ej : jnL Q l = 0 := if_neg c
    rw [if_neg c, B24_30]
    have := start .null .null .null
    rw [ej] at this
    exact this
theorem x23 {M : CT} {li : Nat → Bool} (h : RO z t q T Q) (qf : ∀ l, l < (Q.1 6).length → QF Q l) (n12 : (Q.1 6).length ≤ 12) (hlk : M.2 16 = lk) (hW : lk ≤ (T.1 1).length) (W300 : (T.1 1).length ≤ 300) (hB : WB T Q lk (Q.1 6).length 0 (M.1 7) (M.1 8)) (h1 : M.1 1 = (List.range (Q.1 6).length).map (fun l => bN (li l))) :
    zden L (d + 4) 23 [.ref 4] (putM z M) = some (0, putM z (va_up (va_up M.1 2 ((List.range (T.1 1).length).map (fun v => bN (mkA T Q li lk (Q.1 6).length v)))) 9 ((List.range lk).map (fun v => bN (jdA T Q li lk (Q.1 6).length v))), M.2)) := by
  have loop : ∀ (r l : Nat), l + r = (Q.1 6).length → xruns (O2 L) (zden L (d + 3)) 23 29 [.ref 4, .int (nI l)] [] (putM z (va_up (va_up M.1 2 ((List.range (T.1 1).length).map (fun v => bN (mkA T Q li lk l v)))) 9 ((List.range lk).map (fun v => bN (jdA T Q li lk l v))), M.2)) = some (0, putM z (va_up (va_up M.1 2 ((List.range (T.1 1).length).map (fun v => bN (mkA T Q li lk (Q.1 6).length v)))) 9 ((List.range lk).map (fun v => bN (jdA T Q li lk (Q.1 6).length v))), M.2)) := by
    intro r
    induction r with
    | zero =>
      intro l hl
      have : l = (Q.1 6).length := by omega
      subst this
      rw [B23_29, XP1 h, Option.bind_some, x38 h, Option.bind_some, iL (by omega) (by omega), if_pos (Nat.le_refl _), B23_63]
    | succ r ih =>
      intro l hl
      have ll : l < (Q.1 6).length := by omega
      have eM : ∀ v, mkA T Q li lk (l + 1) v = (mkA T Q li lk l v || (decide (v < lk) && (li l && inA T Q l lk lk v))) := by
        intro v
        unfold mkA
        rw [any_succ]
        cases decide (v < lk) <;> simp
      have eJ : ∀ v, jdA T Q li lk (l + 1) v = (jdA T Q li lk l v || (li l && joA T Q l lk lk v)) := fun v => any_succ _ _
      have g1 : zden L (d + 3) 56 [.ref 52, .int (nI l)] (putM z (va_up (va_up M.1 2 ((List.range (T.1 1).length).map (fun v => bN (mkA T Q li lk l v)))) 9 ((List.range lk).map (fun v => bN (jdA T Q li lk l v))), M.2)) = some (nI (bN (li l)), putM z (va_up (va_up M.1 2 ((List.range (T.1 1).length).map (fun v => bN (mkA T Q li lk l v)))) 9 ((List.range lk).map (fun v => bN (jdA T Q li lk l v))), M.2)) := by
        rw [X1g]
        show some (zget ((M.1 1).map nI) (nI l), _) = _
        rw [h1, zget_map (by rw [List.length_map, List.length_range]; exact ll) (by rw [List.length_map, List.length_range]; omega), map_at ll]
      have bl := bN_le (li l)
      rw [B23_29, XP1 h, Option.bind_some, x38 h, Option.bind_some, iL (by omega) (by omega), if_neg (by omega), B23_40, J4_3, Option.bind_some, g1, Option.bind_some, iE (by omega) (by omega)]
      by_cases c : bN (li l) = 1
      · have c' := (bN_1 _).mp c
        have e24 := x24 (L := L) (d := d + 1) (z := z) (l := l) (W := (T.1 1).length) (M := (va_up (va_up M.1 2 ((List.range (T.1 1).length).map (fun v => bN (mkA T Q li lk l v)))) 9 ((List.range lk).map (fun v => bN (jdA T Q li lk l v))), M.2)) (m := mkA T Q li lk l) (j := jdA T Q li lk l) h (qf l ll) ll n12 hlk (by omega) hW W300 hB rfl rfl
        rw [if_pos c, B23_52, e24, Option.bind_some, B23_57, nI_add]
        have same2 : (List.range (T.1 1).length).map (fun v => bN (mkA T Q li lk l v || (decide (v < lk) && inA T Q l lk lk v))) = (List.range (T.1 1).length).map (fun v => bN (mkA T Q li lk (l + 1) v)) := List.map_congr_left (fun v _ => by rw [eM, c', Bool.true_and])
        have same9 : (List.range lk).map (fun v => bN (jdA T Q li lk l v || joA T Q l lk lk v)) = (List.range lk).map (fun v => bN (jdA T Q li lk (l + 1) v)) := List.map_congr_left (fun v _ => by rw [eJ, c', Bool.true_and])
        rw [same2, same9]
        simp only [up_comm _ (show (9 : Nat) ≠ 2 by omega), vv]
        exact ih (l + 1) (by omega)
      · have c' := (bN_0 (li l)).mp (by omega)
        rw [if_neg c, B23_57, nI_add]
        have same2 : (List.range (T.1 1).length).map (fun v => bN (mkA T Q li lk l v)) = (List.range (T.1 1).length).map (fun v => bN (mkA T Q li lk (l + 1) v)) := List.map_congr_left (fun v _ => by rw [eM, c', Bool.false_and, Bool.and_false, Bool.or_false])
        have same9 : (List.range lk).map (fun v => bN (jdA T Q li lk l v)) = (List.range lk).map (fun v => bN (jdA T Q li lk (l + 1) v)) := List.map_congr_left (fun v _ => by rw [eJ, c', Bool.false_and, Bool.or_false])
        rw [same2, same9]
        exact ih (l + 1) (by omega)
  have rep : ∀ (n : Nat) (f : Nat → Bool), (∀ v, f v = false) → List.replicate n 0 = (List.range n).map (fun v => bN (f v)) := by
    intro n f hf
    refine List.ext_getElem (by simp) (fun k h1 h2 => ?_)
    rw [List.getElem_replicate, List.getElem_map, hf]; rfl
  have s := loop (Q.1 6).length 0 (by omega)
  rw [← rep _ _ (fun v => by unfold mkA; rw [List.range_zero, List.any_nil, Bool.and_false]), ← rep _ _ (fun v => by unfold jdA; rw [List.range_zero, List.any_nil])] at s
  rw [N23 _ ob4, B23_0, J4_4, Option.bind_some, XP0 h, Option.bind_some, x74 h, Option.bind_some, X2f W300, Option.bind_some, J4_11, Option.bind_some, X16r, Option.bind_some]
  show ((zden L (d + 3) 64 [.ref 68, .int (nI (M.2 16)), .int (nI 0)] (putM z (va_up M.1 2 (List.replicate (T.1 1).length 0), M.2))).bind _) = _
  rw [hlk, X9f (by omega), Option.bind_some]
  exact s
end
