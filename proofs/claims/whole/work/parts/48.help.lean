/-! conditions over nI as conditions over Nat; rows of small numbers -/
theorem iL {α : Sort _} {a b : Nat} {A B : α} (ha : a < 2 ^ 31) (hb : b < 2 ^ 31) : (if nI a ≤ nI b then A else B) = if a ≤ b then A else B := by
  simp only [nI_leI ha hb]
theorem iT {α : Sort _} {a b : Nat} {A B : α} (ha : a < 2 ^ 31) (hb : b < 2 ^ 31) : (if nI a < nI b then A else B) = if a < b then A else B := by
  simp only [nI_ltI ha hb]
theorem iE {α : Sort _} {a b : Nat} {A B : α} (ha : a < 2 ^ 31) (hb : b < 2 ^ 31) : (if nI a = nI b then A else B) = if a = b then A else B := by
  simp only [nI_eq ha hb]
theorem iO0 {α : Sort _} {A B : α} : (if nI 0 = nI 0 ∨ nI 0 = nI 1 then A else B) = A := if_pos (Or.inl rfl)
theorem iO1 {α : Sort _} {A B : α} : (if nI 1 = nI 0 ∨ nI 1 = nI 1 then A else B) = A := if_pos (Or.inr rfl)
theorem m1_ne {a : Nat} (ha : a < 2 ^ 31) : ¬ ((-1 : Int32) = nI a) := by
  intro h
  have := congrArg Int32.toInt h
  rw [nI_toInt ha] at this
  have h2 : (-1 : Int32).toInt = -1 := rfl
  rw [h2] at this
  omega
theorem m1_lt : (-1 : Int32) < nI 0 := by decide
/-- Booleans as numbers -/
def bI (b : Bool) : Int32 := bif b then nI 1 else nI 0
theorem iB {α : Sort _} {b : Bool} {A B : α} : (if bI b = nI 0 then A else B) = if b = true then B else A := by
  cases b
  · rfl
  · show (if nI 1 = nI 0 then A else B) = B
    rw [if_neg (by decide)]
theorem iBO {α : Sort _} {b : Bool} {A B : α} : (if bI b = nI 0 ∨ bI b = nI 1 then A else B) = A := by
  cases b
  · exact iO0
  · exact iO1
theorem zget_map {xs : List Nat} {i : Nat} (hi : i < xs.length) (hl : xs.length < 2 ^ 31) : zget (xs.map nI) (nI i) = nI (xs.getD i 0) := by
  unfold zget
  rw [List.length_map, if_neg (nI_pos (by omega)), if_neg (nI_ge hi hl), nI_clamp (by omega)]
  simp [List.getD, hi]
theorem zget_out {xs : List Int32} {i : Nat} (hi : xs.length ≤ i) (hl : i < 2 ^ 31) : zget xs (nI i) = -1 := by
  unfold zget
  rw [if_neg (nI_pos hl), if_pos (nI_le hi hl)]
theorem zget_neg {xs : List Int32} {i : Int32} (h : i < nI 0) : zget xs i = -1 := if_pos h
theorem zset_map {xs : List Nat} {i v : Nat} (hi : i < xs.length) (hl : xs.length < 2 ^ 31) : zset (xs.map nI) (nI i) (nI v) = (xs.set i v).map nI := by
  unfold zset
  rw [List.length_map, if_neg (nI_pos (by omega)), if_neg (nI_ge hi hl), nI_clamp (by omega), List.map_set]
theorem zadd_map {mo v : Nat} {xs : List Nat} (h : xs.length < mo) : zadd mo (xs.map nI) (nI v) = (xs ++ [v]).map nI := by
  unfold zadd
  rw [List.length_map, if_pos h]
  simp
theorem zkeep_map {xs : List Nat} {n : Nat} (hn : n < xs.length) (hl : xs.length < 2 ^ 31) : zkeep (xs.map nI) (nI n) = (xs.take n).map nI := by
  unfold zkeep
  rw [List.length_map, if_neg (nI_pos (by omega)), if_neg (nI_ge hn hl), nI_clamp (by omega), List.map_take]
/-- a byte of a row of bytes is c -/
theorem zg_eq {xs : List Nat} {i c : Nat} (hb : ∀ x ∈ xs, x < 2 ^ 31) (hi : i < 2 ^ 31) (hl : xs.length < 2 ^ 31) (hc : c < 2 ^ 31) : zget (xs.map nI) (nI i) = nI c ↔ xs[i]? = some c := by
  by_cases h : i < xs.length
  · rw [zget_map h hl, List.getElem?_eq_getElem h]
    simp only [List.getD, List.getElem?_eq_getElem h, Option.getD_some]
    rw [nI_eq (hb _ (List.getElem_mem h)) hc]
    simp
  · rw [zget_out (by simpa using h) hi, List.getElem?_eq_none (by omega)]
    constructor
    · intro q; exact absurd q (m1_ne hc)
    · intro q; cases q
