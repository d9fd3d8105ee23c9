/-! SIGNS: what kinds there are; the small methods of both sides -/
def isSm (c : Nat) : Bool := decide (97 ≤ c) && decide (c ≤ 122)
def isUp (c : Nat) : Bool := decide (65 ≤ c) && decide (c ≤ 90)
def isFg (c : Nat) : Bool := decide (48 ≤ c) && decide (c ≤ 57)
def isWd (c : Nat) : Bool := isSm c || isUp c || isFg c
def lo (c : Nat) : Nat := if isUp c then c + 32 else c
/-- a byte, or -1 where there is none -/
def oz (o : Option Nat) : Int32 := match o with
  | some k => nI k
  | none => -1
abbrev BB (bs : List Nat) : Prop := (∀ x ∈ bs, x < 256) ∧ bs.length ≤ 1000
theorem BB.at {bs : List Nat} (h : BB bs) {i k : Nat} (e : bs[i]? = some k) : k < 256 := h.1 k (List.mem_of_getElem? e)
theorem zg_oz {bs : List Nat} (hl : bs.length < 2 ^ 31) {i : Nat} (hi : i < 2 ^ 31) : zget (bs.map nI) (nI i) = oz bs[i]? := by
  by_cases h : i < bs.length
  · rw [zget_map h hl, List.getElem?_eq_getElem h]
    simp [oz, List.getD, h]
  · rw [zget_out (by simpa using h) hi, List.getElem?_eq_none (by omega)]
    rfl
theorem oz_eq {o : Option Nat} {c : Nat} (ho : ∀ k, o = some k → k < 256) (hc : c < 2 ^ 31) : oz o = nI c ↔ o = some c := by
  cases o with
  | none => exact ⟨fun q => absurd q (m1_ne hc), fun q => (by cases q)⟩
  | some k =>
    have := ho k rfl
    show nI k = nI c ↔ _
    rw [nI_eq (by omega) hc]
    simp
theorem iZ {α : Sort _} {bs : List Nat} (hb : BB bs) {i c : Nat} {A B : α} (hc : c < 2 ^ 31) : (if oz bs[i]? = nI c then A else B) = if bs[i]? = some c then A else B := by
  have := oz_eq (o := bs[i]?) (c := c) (fun k => hb.at) hc
  simp only [this]
theorem oz_lt {o : Option Nat} (ho : ∀ k, o = some k → k < 256) {c : Nat} (hc : c < 2 ^ 31) : oz o < nI c ↔ ∀ k, o = some k → k < c := by
  cases o with
  | none =>
    refine ⟨fun _ k q => (by cases q), fun _ => ?_⟩
    rw [Int32.lt_iff_toInt_lt, nI_toInt hc]
    show (-1 : Int) < _
    omega
  | some k =>
    have := ho k rfl
    show nI k < nI c ↔ _
    rw [nI_ltI (by omega) hc]
    exact ⟨fun q j hj => by cases hj; exact q, fun q => q k rfl⟩
theorem oz_le {o : Option Nat} (ho : ∀ k, o = some k → k < 256) {c : Nat} (hc : c < 2 ^ 31) : oz o ≤ nI c ↔ ∀ k, o = some k → k ≤ c := by
  cases o with
  | none =>
    refine ⟨fun _ k q => (by cases q), fun _ => ?_⟩
    rw [Int32.le_iff_toInt_le, nI_toInt hc]
    show (-1 : Int) ≤ _
    omega
  | some k =>
    have := ho k rfl
    show nI k ≤ nI c ↔ _
    rw [nI_leI (by omega) hc]
    exact ⟨fun q j hj => by cases hj; exact q, fun q => q k rfl⟩
theorem le_oz {o : Option Nat} (ho : ∀ k, o = some k → k < 256) {c : Nat} (hc : c < 2 ^ 31) : nI c < oz o ↔ ∃ k, o = some k ∧ c < k := by
  cases o with
  | none =>
    refine ⟨fun q => ?_, fun ⟨k, q, _⟩ => by cases q⟩
    rw [Int32.lt_iff_toInt_lt, nI_toInt hc] at q
    have h2 : (oz none).toInt = -1 := rfl
    rw [h2] at q
    omega
  | some k =>
    have := ho k rfl
    show nI c < nI k ↔ _
    rw [nI_ltI hc (by omega)]
    exact ⟨fun q => ⟨k, rfl, q⟩, fun ⟨j, hj, q⟩ => by cases hj; exact q⟩
section
variable {L d : Nat} {z : zS}
theorem c104 {c : Nat} (hc : c < 256) : zden L (d + 1) 104 [.int (nI c)] z = some (nI (lo c), z) := by
  rw [N104, B104_0, iT (by omega) (by omega)]
  unfold lo isUp
  by_cases h1 : c < 65
  · rw [if_pos h1, B104_22, B104_23, if_neg (by simp; omega)]
  · rw [if_neg h1, B104_6, iT (by omega) (by omega)]
    by_cases h2 : 90 < c
    · rw [if_pos h2, B104_22, B104_23, if_neg (by simp; omega)]
    · rw [if_neg h2, B104_12, B104_23, if_pos (by simp; omega), pk_sub (by omega), nI_add]
      congr 3
      omega
theorem c105 {o : Option Nat} (ho : ∀ k, o = some k → k < 256) : zden L (d + 1) 105 [.int (oz o)] z = some (bI (o.any isSm), z) := by
  rw [N105, B105_0]
  by_cases h1 : oz o < nI 97
  · rw [if_pos h1, B105_16, B105_17, iO0]
    have := (oz_lt ho (by omega)).mp h1
    cases o with
    | none => rfl
    | some k =>
      have := this k rfl
      have e : isSm k = false := by simp [isSm]; omega
      show some (nI 0, z) = some (bI (isSm k), z)
      rw [e]; rfl
  · rw [if_neg h1, B105_6]
    by_cases h2 : nI 122 < oz o
    · rw [if_pos h2, B105_16, B105_17, iO0]
      obtain ⟨k, rfl, hk⟩ := (le_oz ho (by omega)).mp h2
      have e : isSm k = false := by simp [isSm]; omega
      show some (nI 0, z) = some (bI (isSm k), z)
      rw [e]; rfl
    · rw [if_neg h2, B105_12, B105_17, iO1]
      rw [oz_lt ho (by omega)] at h1
      rw [le_oz ho (by omega)] at h2
      cases o with
      | none => exact absurd (fun k q => by cases q) h1
      | some k =>
        have a1 : 97 ≤ k := Nat.not_lt.mp fun q => h1 (fun j hj => by cases hj; exact q)
        have a2 : k ≤ 122 := Nat.not_lt.mp fun q => h2 ⟨k, rfl, q⟩
        simp [isSm, bI, a1, a2]
theorem c106 {o : Option Nat} (ho : ∀ k, o = some k → k < 256) : zden L (d + 1) 106 [.int (oz o)] z = some (bI (o.any isFg), z) := by
  rw [N106, B106_0]
  by_cases h1 : oz o < nI 48
  · rw [if_pos h1, B106_16, B106_17, iO0]
    have := (oz_lt ho (by omega)).mp h1
    cases o with
    | none => rfl
    | some k =>
      have := this k rfl
      have e : isFg k = false := by simp [isFg]; omega
      show some (nI 0, z) = some (bI (isFg k), z)
      rw [e]; rfl
  · rw [if_neg h1, B106_6]
    by_cases h2 : nI 57 < oz o
    · rw [if_pos h2, B106_16, B106_17, iO0]
      obtain ⟨k, rfl, hk⟩ := (le_oz ho (by omega)).mp h2
      have e : isFg k = false := by simp [isFg]; omega
      show some (nI 0, z) = some (bI (isFg k), z)
      rw [e]; rfl
    · rw [if_neg h2, B106_12, B106_17, iO1]
      rw [oz_lt ho (by omega)] at h1
      rw [le_oz ho (by omega)] at h2
      cases o with
      | none => exact absurd (fun k q => by cases q) h1
      | some k =>
        have a1 : 48 ≤ k := Nat.not_lt.mp fun q => h1 (fun j hj => by cases hj; exact q)
        have a2 : k ≤ 57 := Nat.not_lt.mp fun q => h2 ⟨k, rfl, q⟩
        simp [isFg, bI, a1, a2]
theorem c107 {o : Option Nat} (ho : ∀ k, o = some k → k < 256) : zden L (d + 1) 107 [.int (oz o)] z = some (bI (o.any isWd), z) := by
  rw [N107]
  have e40 : xruns (O2 L) (zden L d) 107 40 [.int (oz o)] [] z = some (nI 0, z) := by rw [B107_40, B107_41, iO0]
  have e36 : xruns (O2 L) (zden L d) 107 36 [.int (oz o)] [] z = some (nI 1, z) := by rw [B107_36, B107_41, iO1]
  cases o with
  | none =>
    have lt : ∀ c, c < 256 → oz none < nI c := fun c hc => (oz_lt (fun k q => by cases q) (by omega)).mpr (fun k q => by cases q)
    rw [B107_0, if_pos (lt 97 (by omega)), B107_12, if_pos (lt 65 (by omega)), B107_24, if_pos (lt 48 (by omega)), e40]
    rfl
  | some k =>
    have hk := ho k rfl
    have e : oz (some k) = nI k := rfl
    rw [e] at e40 e36 ⊢
    have fin24 : xruns (O2 L) (zden L d) 107 24 [.int (nI k)] [] z = some (bI (isFg k), z) := by
      rw [B107_24, iT (by omega) (by omega)]
      by_cases h5 : k < 48
      · rw [if_pos h5, e40]
        have e : isFg k = false := by simp [isFg]; omega
        rw [e]; rfl
      · rw [if_neg h5, B107_30, iT (by omega) (by omega)]
        by_cases h6 : 57 < k
        · rw [if_pos h6, e40]
          have e : isFg k = false := by simp [isFg]; omega
          rw [e]; rfl
        · rw [if_neg h6, e36]
          have a1 : 48 ≤ k := by omega
          have a2 : k ≤ 57 := by omega
          simp [isFg, bI, a1, a2]
    have fin12 : xruns (O2 L) (zden L d) 107 12 [.int (nI k)] [] z = some (bI (isUp k || isFg k), z) := by
      rw [B107_12, iT (by omega) (by omega)]
      by_cases h5 : k < 65
      · rw [if_pos h5, fin24]
        have : isUp k = false := by simp [isUp]; omega
        rw [this, Bool.false_or]
      · rw [if_neg h5, B107_18, iL (by omega) (by omega)]
        by_cases h6 : k ≤ 90
        · rw [if_pos h6, e36]
          have : isUp k = true := by simp [isUp]; omega
          rw [this, Bool.true_or]; rfl
        · rw [if_neg h6, fin24]
          have : isUp k = false := by simp [isUp]; omega
          rw [this, Bool.false_or]
    rw [B107_0, iT (by omega) (by omega)]
    show _ = some (bI (isSm k || isUp k || isFg k), z)
    by_cases h5 : k < 97
    · rw [if_pos h5, fin12]
      have : isSm k = false := by simp [isSm]; omega
      rw [this, Bool.false_or]
    · rw [if_neg h5, B107_6, iL (by omega) (by omega)]
      by_cases h6 : k ≤ 122
      · rw [if_pos h6, e36]
        have : isSm k = true := by simp [isSm]; omega
        rw [this]; rfl
      · rw [if_neg h6, fin12]
        have : isSm k = false := by simp [isSm]; omega
        rw [this, Bool.false_or]
end
