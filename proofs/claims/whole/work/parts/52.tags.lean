/-! TAGS: what one is; the class's Tags -/
def fst1 (bs : List Nat) (p : Nat) : Nat := if bs[p + 1]? = some 47 then p + 2 else p + 1
def lrun (bs : List Nat) (k : Nat) : Nat := ((bs.drop k).takeWhile isSm).length
def tagN (bs : List Nat) (p : Nat) : Nat := lrun bs (fst1 bs p)
def tagB (bs : List Nat) (p : Nat) : Bool := decide (1 ≤ tagN bs p) && decide (tagN bs p ≤ 8) && decide (bs[fst1 bs p + tagN bs p]? = some 62)
def tagL (bs : List Nat) (p : Nat) : Nat := if tagB bs p then fst1 bs p + tagN bs p + 1 - p else 0
def tagS (bs : List Nat) (p : Nat) : List Nat := (bs.drop (fst1 bs p)).take (tagN bs p)
theorem tw_lt {l : List Nat} : ∀ {i : Nat}, i < (l.takeWhile isSm).length → l[i]?.any isSm = true := by
  induction l with
  | nil => intro i h; simp at h
  | cons v l ih =>
    intro i h
    by_cases hv : isSm v = true
    · rw [List.takeWhile_cons, if_pos hv] at h
      cases i with
      | zero => simpa using hv
      | succ i => simpa using ih (by simpa using h)
    · rw [List.takeWhile_cons, if_neg hv] at h
      simp at h
theorem tw_end {l : List Nat} : l[(l.takeWhile isSm).length]?.any isSm = false := by
  induction l with
  | nil => rfl
  | cons v l ih =>
    by_cases hv : isSm v = true
    · rw [List.takeWhile_cons, if_pos hv]
      simpa using ih
    · rw [List.takeWhile_cons, if_neg hv]
      simpa using hv
theorem lrun_lt {bs : List Nat} {k i : Nat} (h : i < lrun bs k) : bs[k + i]?.any isSm = true := by
  have := tw_lt (l := bs.drop k) h
  rwa [List.getElem?_drop] at this
theorem lrun_end (bs : List Nat) (k : Nat) : bs[k + lrun bs k]?.any isSm = false := by
  have := tw_end (l := bs.drop k)
  rwa [List.getElem?_drop] at this
theorem lrun_le (bs : List Nat) (k : Nat) : lrun bs k ≤ bs.length := by
  unfold lrun
  have h1 := (List.takeWhile_prefix isSm (l := bs.drop k)).length_le
  simp at h1
  omega
theorem fst1_le (bs : List Nat) (p : Nat) : p + 1 ≤ fst1 bs p ∧ fst1 bs p ≤ p + 2 := by
  unfold fst1
  split <;> omega
section
variable {L d : Nat} {z : zS} {bs : List Nat} {a : Nat}
theorem c56 (ha : zrow a = true) (hz : z.1 a = bs.map nI) (hb : BB bs) {i : Nat} (hi : i < 2 ^ 31) : zden L (d + 1) 56 [.ref a, .int (nI i)] z = some (oz bs[i]?, z) := by
  rw [N56 ha, hz, zg_oz (by have := hb.2; omega) hi]
theorem c71 (ha : zrow a = true) (hz : z.1 a = bs.map nI) (hb : BB bs) {p : Nat} (hp : p ≤ 5000) : zden L (d + 2) 71 [.ref a, .int (nI p)] z = some (nI (fst1 bs p), z) := by
  rw [N71, B71_0, nI_add, c56 ha hz hb (by omega), Option.bind_some, iZ hb (by omega)]
  unfold fst1
  split
  · rw [B71_12, B71_21, nI_add]
  · rw [B71_18, B71_21, nI_add]
theorem c68_loop (ha : zrow a = true) (hz : z.1 a = bs.map nI) (hb : BB bs) {x1 : Int32} {f : Nat} (hf : f ≤ 5002) : ∀ (r k : Nat), k + r = 8 → k ≤ lrun bs f → xruns (O2 L) (zden L (d + 1)) 68 8 [.ref a, .int x1, .int (nI f), .int (nI k)] [] z = xruns (O2 L) (zden L (d + 1)) 68 33 [.ref a, .int x1, .int (nI f), .int (nI (min (lrun bs f) 8))] [] z := by
  intro r
  induction r with
  | zero =>
    intro k hk hl
    rw [B68_8, if_pos (nI_le (by omega) (by omega)), show min (lrun bs f) 8 = k by omega]
  | succ r ih =>
    intro k hk hl
    rw [B68_8, if_neg (nI_ge (by omega) (by omega)), B68_14, nI_add, c56 ha hz hb (by omega), Option.bind_some, c105 (fun k => hb.at), Option.bind_some, iB]
    by_cases h : k < lrun bs f
    · rw [if_pos (lrun_lt h), B68_27, nI_add]
      exact ih (k + 1) (by omega) (by omega)
    · have hk2 : k = lrun bs f := by omega
      subst hk2
      rw [if_neg (by rw [lrun_end]; decide), show min (lrun bs f) 8 = lrun bs f by omega]
theorem c68 (ha : zrow a = true) (hz : z.1 a = bs.map nI) (hb : BB bs) {p : Nat} (hp : p ≤ 5000) : zden L (d + 3) 68 [.ref a, .int (nI p)] z = some (nI (tagL bs p), z) := by
  have hf := fst1_le bs p
  rw [N68, B68_0, c71 ha hz hb hp, Option.bind_some, c68_loop ha hz hb (by omega) 8 0 (by omega) (Nat.zero_le _), B68_33, iE (by omega) (by omega)]
  unfold tagL tagB tagN
  by_cases h0 : lrun bs (fst1 bs p) = 0
  · rw [if_pos (by omega), B68_49, if_neg (by simp [h0])]
  · rw [if_neg (by omega), B68_37, nI_add, c56 ha hz hb (by omega), Option.bind_some, iZ hb (by omega)]
    by_cases h8 : lrun bs (fst1 bs p) ≤ 8
    · rw [show min (lrun bs (fst1 bs p)) 8 = lrun bs (fst1 bs p) by omega]
      by_cases hg : bs[fst1 bs p + lrun bs (fst1 bs p)]? = some 62
      · rw [if_pos hg, B68_51, nI_add, nI_add, pk_sub (by omega), if_pos (by simp [hg, h8]; omega)]
      · rw [if_neg hg, B68_49, if_neg (by simp [hg])]
    · have h1 := lrun_lt (bs := bs) (k := fst1 bs p) (i := 8) (by omega)
      rw [show min (lrun bs (fst1 bs p)) 8 = 8 by omega, if_neg (fun q => by rw [q] at h1; revert h1; decide), B68_49, if_neg (by simp; omega)]
def isBr (bs : List Nat) (p : Nat) : Bool := decide (bs[fst1 bs p]? = some 112) && decide (bs[fst1 bs p + 1]? = some 62)
theorem c69 (ha : zrow a = true) (hz : z.1 a = bs.map nI) (hb : BB bs) {p : Nat} (hp : p ≤ 5000) : zden L (d + 3) 69 [.ref a, .int (nI p)] z = some (bI (isBr bs p), z) := by
  have hf := fst1_le bs p
  rw [N69, B69_0, c71 ha hz hb hp, Option.bind_some, c56 ha hz hb (by omega), Option.bind_some, iZ hb (by omega)]
  unfold isBr
  by_cases h1 : bs[fst1 bs p]? = some 112
  · rw [if_pos h1, B69_16, nI_add, c56 ha hz hb (by omega), Option.bind_some, iZ hb (by omega)]
    by_cases h2 : bs[fst1 bs p + 1]? = some 62
    · rw [if_pos h2, B69_28, B69_33, iO1]; simp [h1, h2, bI]
    · rw [if_neg h2, B69_32, B69_33, iO0]; simp [h2, bI]
  · rw [if_neg h1, B69_32, B69_33, iO0]; simp [h1, bI]
/-- the letters of an opening and of a closing tag, as the class compares them -/
def sameL (bs : List Nat) (o c : Nat) : Nat → Nat → Bool
  | 0, _ => false
  | r + 1, i => if bs[o + 1 + i]? = bs[c + 2 + i]? then (if bs[o + 1 + i]? = some 62 then true else sameL bs o c r (i + 1)) else false
theorem oz_inj {o o' : Option Nat} (h : ∀ k, o = some k → k < 256) (h' : ∀ k, o' = some k → k < 256) : oz o = oz o' ↔ o = o' := by
  cases o' with
  | none =>
    cases o with
    | none => simp
    | some k =>
      have := h k rfl
      constructor
      · intro q; exact absurd q.symm (m1_ne (by omega))
      · intro q; cases q
  | some k => exact oz_eq h (by have := h' k rfl; omega)
theorem c72_loop (ha : zrow a = true) (hz : z.1 a = bs.map nI) (hb : BB bs) {o c : Nat} (ho : o ≤ 5000) (hc : c ≤ 5000) : ∀ (r k : Nat) (v : Value), k + r = 9 → xruns (O2 L) (zden L (d + 1)) 72 2 [.ref a, .int (nI o), .int (nI c), .int (nI k), v] [] z = some (bI (sameL bs o c r k), z) := by
  intro r
  induction r with
  | zero =>
    intro k v hk
    rw [B72_2, if_pos (nI_lt (by omega) (by omega)), B72_50, iO0]
    rfl
  | succ r ih =>
    intro k v hk
    rw [B72_2, if_neg (nI_nlt (by omega) (by omega)), B72_8, nI_add, nI_add, nI_add, nI_add, c56 ha hz hb (by omega), Option.bind_some, c56 ha hz hb (by omega), Option.bind_some]
    simp only [oz_inj (fun k => hb.at) (fun k => hb.at), sameL]
    split
    · rw [B72_35, iZ hb (by omega)]
      split
      · rw [B72_42, iO1]; rfl
      · rw [B72_44, nI_add]
        exact ih (k + 1) _ (by omega)
    · rw [B72_33, iO0]; rfl
theorem c72 (ha : zrow a = true) (hz : z.1 a = bs.map nI) (hb : BB bs) {o c : Nat} (ho : o ≤ 5000) (hc : c ≤ 5000) : zden L (d + 2) 72 [.ref a, .int (nI o), .int (nI c)] z = some (bI (sameL bs o c 9 0), z) := by
  rw [N72, B72_0]
  exact c72_loop ha hz hb ho hc 9 0 _ (by omega)
end
