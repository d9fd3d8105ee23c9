/-! PASSAGES: what is chosen; the class -/
theorem filt_mono {p q : Nat → Bool} (h : ∀ v, p v = true → q v = true) : ∀ n, ((List.range n).filter p).length ≤ ((List.range n).filter q).length := by
  intro n
  induction n with
  | zero => exact Nat.le_refl _
  | succ n ih =>
    rw [filt_succ, filt_succ]
    have : ∀ l : List Nat, (l ++ [n]).length = l.length + 1 := fun l => by simp
    by_cases c : p n = true
    · rw [if_pos c, if_pos (h n c), this, this]; omega
    · rw [if_neg c]
      split
      · rw [this]; omega
      · exact ih
def bsc (sc : Nat → Nat) : Option Nat → Nat
  | none => 0
  | some b => sc b
def bst (sc : Nat → Nat) (ch : Nat → Bool) : Nat → Option Nat
  | 0 => none
  | z + 1 => if ch z = false ∧ bsc sc (bst sc ch z) < sc z then some z else bst sc ch z
def upB (ch : Nat → Bool) (b : Nat) (z : Nat) : Bool := ch z || decide (z = b)
def chN (ch : Nat → Bool) : Option Nat → (Nat → Bool)
  | none => ch
  | some b => upB ch b
def chs (sc : Nat → Nat) (n : Nat) : Nat → (Nat → Bool)
  | 0 => fun _ => false
  | k + 1 => chN (chs sc n k) (bst sc (chs sc n k) n)
/-- what is chosen in the end -/
def fch (sc : Nat → Nat) (n k z : Nat) : Bool := match bst sc (fun _ => false) n with
  | none => decide (z = 0) && decide (z < n)
  | some _ => chs sc n k z
def jch (ch : Nat → Bool) (z : Nat) : Bool := ch z && ch (z + 1)
theorem bst_lt {sc : Nat → Nat} {ch : Nat → Bool} : ∀ {n b : Nat}, bst sc ch n = some b → b < n ∧ ch b = false ∧ 0 < sc b := by
  intro n
  induction n with
  | zero => intro b h; cases h
  | succ n ih =>
    intro b h
    unfold bst at h
    split at h
    · rename_i q
      cases h
      exact ⟨by omega, q.1, by omega⟩
    · have := ih h
      exact ⟨by omega, this.2⟩
theorem bst_none {sc : Nat → Nat} {ch : Nat → Bool} : ∀ {n : Nat}, bst sc ch n = none → ∀ z, z < n → ch z = false → sc z = 0 := by
  intro n
  induction n with
  | zero => intro _ z hz; omega
  | succ n ih =>
    intro h z hz hc
    unfold bst at h
    split at h
    · cases h
    · rename_i q
      by_cases e : z = n
      · subst e
        rw [h] at q
        have : ¬ 0 < sc z := fun w => q ⟨hc, w⟩
        omega
      · exact ih h z (by omega) hc
theorem bst_zero {sc : Nat → Nat} {ch : Nat → Bool} : ∀ {n : Nat}, (∀ z, z < n → sc z = 0) → bst sc ch n = none := by
  intro n
  induction n with
  | zero => intro _; rfl
  | succ n ih =>
    intro h
    unfold bst
    rw [ih (fun z hz => h z (by omega)), if_neg (fun q => by have := h n (by omega); have := q.2; omega)]
theorem chs_lt (sc : Nat → Nat) (n : Nat) : ∀ k z, chs sc n k z = true → z < n := by
  intro k
  induction k with
  | zero => intro z h; cases h
  | succ k ih =>
    intro z h
    unfold chs at h
    cases hb : bst sc (chs sc n k) n with
    | none => rw [hb] at h; exact ih z h
    | some b =>
      rw [hb] at h
      have h : (chs sc n k z || decide (z = b)) = true := h
      simp only [Bool.or_eq_true, decide_eq_true_eq] at h
      rcases h with h | h
      · exact ih z h
      · rw [h]; exact (bst_lt hb).1
theorem fch_lt {sc : Nat → Nat} {n k z : Nat} (h : fch sc n k z = true) : z < n := by
  unfold fch at h
  split at h
  · simp only [Bool.and_eq_true, decide_eq_true_eq] at h
    exact h.2
  · exact chs_lt sc n k z h
theorem upB_cnt (ch : Nat → Bool) (b : Nat) : ∀ n, ((List.range n).filter (upB ch b)).length ≤ ((List.range n).filter ch).length + (if b < n then 1 else 0) := by
  intro n
  induction n with
  | zero => exact Nat.zero_le _
  | succ n ih =>
    rw [filt_succ, filt_succ]
    by_cases e : n = b
    · subst e
      rw [if_neg (by omega)] at ih
      rw [if_pos (show n < n + 1 by omega)]
      have : ∀ l : List Nat, (l ++ [n]).length = l.length + 1 := fun l => by simp
      split
      · rw [this]
        split
        · rw [this]; omega
        · omega
      · split
        · rw [this]; omega
        · omega
    · have u : upB ch b n = ch n := by unfold upB; rw [decide_eq_false e, Bool.or_false]
      rw [u]
      have : ∀ l : List Nat, (l ++ [n]).length = l.length + 1 := fun l => by simp
      have hb : (if b < n + 1 then 1 else 0) = (if b < n then 1 else 0) := by
        by_cases c : b < n
        · rw [if_pos c, if_pos (by omega)]
        · rw [if_neg c, if_neg (by omega)]
      rw [hb]
      split
      · rw [this, this]; omega
      · exact ih
theorem chs_cnt (sc : Nat → Nat) (n : Nat) : ∀ k, ((List.range n).filter (chs sc n k)).length ≤ k := by
  intro k
  induction k with
  | zero =>
    have : (List.range n).filter (chs sc n 0) = [] := List.filter_eq_nil_iff.mpr (fun a _ => by show ¬ false = true; decide)
    rw [this]; exact Nat.le_refl _
  | succ k ih =>
    unfold chs
    cases hb : bst sc (chs sc n k) n with
    | none =>
      have : chN (chs sc n k) none = chs sc n k := rfl
      rw [this]; omega
    | some b =>
      have : chN (chs sc n k) (some b) = upB (chs sc n k) b := rfl
      rw [this]
      have := upB_cnt (chs sc n k) b n
      split at this <;> omega
theorem fch_cnt {sc : Nat → Nat} {n k : Nat} (hk : 1 ≤ k) : ((List.range n).filter (fch sc n k)).length ≤ k := by
  cases hb : bst sc (fun _ => false) n with
  | none =>
    have e : fch sc n k = fun z => decide (z = 0) && decide (z < n) := by funext z; unfold fch; rw [hb]
    rw [e]
    have : ∀ m, ((List.range m).filter (fun z => decide (z = 0) && decide (z < n))).length ≤ 1 := by
      intro m
      have h := upB_cnt (fun _ => false) 0 m
      have h2 : ((List.range m).filter (fun z => decide (z = 0) && decide (z < n))).length ≤ ((List.range m).filter (upB (fun _ => false) 0)).length := by
        refine filt_mono (fun z hz => ?_) m
        simp only [Bool.and_eq_true, decide_eq_true_eq] at hz
        unfold upB
        simp [hz.1]
      have h3 : (List.range m).filter (fun _ => false) = [] := List.filter_eq_nil_iff.mpr (fun a _ => by simp)
      rw [h3] at h
      have h : ((List.range m).filter (upB (fun _ => false) 0)).length ≤ 0 + (if 0 < m then 1 else 0) := h
      split at h <;> omega
    have := this n
    omega
  | some b =>
    have e : fch sc n k = chs sc n k := by funext z; unfold fch; rw [hb]
    rw [e]
    exact chs_cnt sc n k
theorem jdm_fch (sc : Nat → Nat) (n k : Nat) : JDM (fch sc n k) (jch (fch sc n k)) n := by
  refine ⟨fun v hv => ?_, fun v hv => fch_lt hv⟩
  unfold jch at hv
  simp only [Bool.and_eq_true] at hv
  exact hv
theorem pfA_le9 {ch : Nat → Bool} {n k : Nat} (h : ((List.range n).filter ch).length ≤ k) {z : Nat} (hz : z ≤ n) : (pfA ch (jch ch) z).length ≤ k := by
  have h1 : (pfA ch (jch ch) z).length ≤ ((List.range z).filter ch).length := by
    unfold pfA
    refine filt_mono (fun v hv => ?_) z
    simp only [Bool.and_eq_true] at hv
    exact hv.1
  obtain ⟨l, hl⟩ := filt_split (p := ch) hz
  have : ((List.range z).filter ch).length ≤ ((List.range n).filter ch).length := by rw [hl, List.length_append]; omega
  omega
/-- the rows of the choice -/
def zP (Z : zS) (c a b : List Nat) : zS := (fun r => if r = 83 then c.map nI else if r = 79 then a.map nI else if r = 81 then b.map nI else Z.1 r, Z.2)
section
variable {L d : Nat} {Z : zS} {c a b : List Nat}
theorem zP_83 : (zP Z c a b).1 83 = c.map nI := rfl
theorem zP_79 : (zP Z c a b).1 79 = a.map nI := rfl
theorem zP_81 : (zP Z c a b).1 81 = b.map nI := rfl
theorem zP_60 : (zP Z c a b).1 60 = Z.1 60 := rfl
theorem zP_s83 (c' : List Nat) : zrs (zP Z c a b) 83 (c'.map nI) = zP Z c' a b := by
  refine Prod.ext (funext fun r => ?_) rfl
  show va_up _ _ _ r = _
  unfold va_up zP
  simp only
  by_cases h : r = 83
  · rw [if_pos h, if_pos h]
  · rw [if_neg h, if_neg h, if_neg h]
theorem zP_s79 (c' : List Nat) : zrs (zP Z c a b) 79 (c'.map nI) = zP Z c c' b := by
  refine Prod.ext (funext fun r => ?_) rfl
  show va_up _ _ _ r = _
  unfold va_up zP
  simp only
  by_cases h : r = 79
  · subst h; rfl
  · rw [if_neg h, if_neg h, if_neg h]
theorem zP_s81 (c' : List Nat) : zrs (zP Z c a b) 81 (c'.map nI) = zP Z c a c' := by
  refine Prod.ext (funext fun r => ?_) rfl
  show va_up _ _ _ r = _
  unfold va_up zP
  simp only
  by_cases h : r = 81
  · subst h; rfl
  · rw [if_neg h, if_neg h, if_neg h]
theorem zP_self (h2 : Z.1 79 = a.map nI) (h3 : Z.1 81 = b.map nI) : ∃ c, Z = zP Z c a b := by
  refine ⟨(Z.1 83).map (fun x => x.toBitVec.toNat), Prod.ext (funext fun r => ?_) rfl⟩
  unfold zP
  simp only
  split
  · rename_i h; rw [map_nat, h]
  · split
    · rename_i h; rw [h, h2]
    · split
      · rename_i h; rw [h, h3]
      · rfl
theorem x3 {sc : Nat → Nat} {ch : Nat → Bool} {n : Nat} (hn : n ≤ 300) (hsc : ∀ z, sc z < 2 ^ 31) (h60 : Z.1 60 = ((List.range n).map sc).map nI) (hc : c = (List.range n).map (fun z => bN (ch z))) : zden L (d + 2) 3 [.ref 78, .ref 60] (zP Z c a b) = some (fI (bst sc ch n), zP Z c a b) := by
  have g60 : ∀ z, z < n → zget (((List.range n).map sc).map nI) (nI z) = nI (sc z) := fun z hz => by
    rw [zget_map (by rw [List.length_map, List.length_range]; exact hz) (by rw [List.length_map, List.length_range]; omega), map_at hz]
  have g83 : ∀ z, z < n → zget (c.map nI) (nI z) = nI (bN (ch z)) := fun z hz => by
    rw [hc, zget_map (by rw [List.length_map, List.length_range]; exact hz) (by rw [List.length_map, List.length_range]; omega), map_at hz]
  have loop : ∀ (r z : Nat), z + r = n → xruns (O2 L) (zden L (d + 1)) 3 7 [.ref 78, .ref 60, .int (fI (bst sc ch z)), .int (nI (bsc sc (bst sc ch z))), .int (nI z)] [] (zP Z c a b) = some (fI (bst sc ch n), zP Z c a b) := by
    intro r
    induction r with
    | zero =>
      intro z hz
      have : z = n := by omega
      subst this
      rw [B3_7, N55 rfl, Option.bind_some, zP_60, h60, List.length_map, List.length_map, List.length_range, iL (by omega) (by omega), if_pos (Nat.le_refl _), B3_54]
    | succ r ih =>
      intro z hz
      have i0 := ih (z + 1) (by omega)
      have e : bst sc ch (z + 1) = if ch z = false ∧ bsc sc (bst sc ch z) < sc z then some z else bst sc ch z := rfl
      have bl := bN_le (ch z)
      have sz := hsc z
      have sb : bsc sc (bst sc ch z) < 2 ^ 31 := by
        cases bst sc ch z with
        | none => show 0 < 2 ^ 31; omega
        | some q => exact hsc q
      rw [B3_7, N55 rfl, Option.bind_some, zP_60, h60, List.length_map, List.length_map, List.length_range, iL (by omega) (by omega), if_neg (by omega), B3_16, J78_2, Option.bind_some, N56 rfl, Option.bind_some, zP_83, g83 z (by omega), iE (by omega) (by omega)]
      by_cases c0 : bN (ch z) = 0
      · rw [if_pos c0, B3_28, N56 rfl, Option.bind_some, zP_60, h60, g60 z (by omega), iL (by omega) (by omega)]
        by_cases c1 : sc z ≤ bsc sc (bst sc ch z)
        · rw [if_neg (fun q => by omega)] at e
          rw [e] at i0
          rw [if_pos c1, B3_48, nI_add]
          exact i0
        · rw [if_pos ⟨(bN_0 _).mp c0, by omega⟩] at e
          rw [e] at i0
          rw [if_neg c1, B3_38, N56 rfl, Option.bind_some, zP_60, h60, g60 z (by omega), B3_48, nI_add]
          exact i0
      · rw [if_neg (fun q => c0 ((bN_0 _).mpr q.1))] at e
        rw [e] at i0
        rw [if_neg c0, B3_48, nI_add]
        exact i0
  rw [N3 _ _ ob78, B3_0]
  exact loop n 0 (by omega)
theorem zset_neg {xs : List Int32} {i v : Int32} (h : i < nI 0) : zset xs i v = xs := if_pos h
/-- one more is chosen -/
theorem x58c {ch : Nat → Bool} {n : Nat} (hn : n ≤ 300) (hc : c = (List.range n).map (fun z => bN (ch z))) (o : Option Nat) (ho : ∀ q, o = some q → q < 300) : zden L (d + 1) 58 [.ref 83, .int (fI o), .int (nI 1)] (zP Z c a b) = some (0, zP Z ((List.range n).map (fun z => bN (chN ch o z))) a b) := by
  rw [N58 rfl, zP_83]
  cases o with
  | none =>
    rw [show fI none = -1 from rfl, zset_neg m1_lt, zP_s83, hc]
    rfl
  | some q =>
    have := ho q rfl
    show some (0, zrs _ 83 (zset (c.map nI) (nI q) (nI 1))) = _
    rw [zset_any (by omega) (by rw [hc, List.length_map, List.length_range]; omega), zP_s83, hc, set_bN (g := upB ch q) (fun k h1 h2 => by unfold upB; rw [decide_eq_false h2, Bool.or_false]) (fun _ => by unfold upB; simp)]
    rfl
theorem x4 {ch : Nat → Bool} {n : Nat} (hn : n ≤ 300) (hc : c = (List.range n).map (fun z => bN (ch z))) (hJ : JDM ch (jch ch) n) (h9 : ∀ z, z ≤ n → (pfA ch (jch ch) z).length ≤ 9) : zden L (d + 3) 4 [.ref 78] (zP Z c a b) = some (0, zP Z c (pfA ch (jch ch) n) (plA ch (jch ch) n)) := by
  have g83 : ∀ z, z < n → zget (c.map nI) (nI z) = nI (bN (ch z)) := fun z hz => by
    rw [hc, zget_map (by rw [List.length_map, List.length_range]; exact hz) (by rw [List.length_map, List.length_range]; omega), map_at hz]
  have gout : zget (c.map nI) (nI n) = -1 := by
    rw [zget_out (by rw [hc, List.length_map, List.length_map, List.length_range]; exact Nat.le_refl _) (by omega)]
  have loop : ∀ (r z : Nat), z + r = n → xruns (O2 L) (zden L (d + 2)) 4 6 [.ref 78, .int (nI z)] [] (zP Z c (pfA ch (jch ch) z) (plA ch (jch ch) z)) = some (0, zP Z c (pfA ch (jch ch) n) (plA ch (jch ch) n)) := by
    intro r
    induction r with
    | zero =>
      intro z hz
      have : z = n := by omega
      subst this
      rw [B4_6, J78_2, Option.bind_some, N55 rfl, Option.bind_some, zP_83, hc, List.length_map, List.length_map, List.length_range, iL (by omega) (by omega), if_pos (Nat.le_refl _), B4_91]
    | succ r ih =>
      intro z hz
      have bl := bN_le (ch z)
      have e1 : pfA ch (jch ch) (z + 1) = if (ch z && !(decide (z ≠ 0) && jch ch (z - 1))) = true then pfA ch (jch ch) z ++ [z] else pfA ch (jch ch) z := filt_succ _ _
      have e2 : plA ch (jch ch) (z + 1) = if (ch z && !jch ch z) = true then plA ch (jch ch) z ++ [z] else plA ch (jch ch) z := filt_succ _ _
      have l1 := h9 (z + 1) (by omega)
      have l2 := (places_inv hJ (z + 1)).1
      have e85 : xruns (O2 L) (zden L (d + 2)) 4 85 [.ref 78, .int (nI z)] [] (zP Z c (pfA ch (jch ch) (z + 1)) (plA ch (jch ch) (z + 1))) = some (0, zP Z c (pfA ch (jch ch) n) (plA ch (jch ch) n)) := by
        rw [B4_85, nI_add]
        exact ih (z + 1) (by omega)
      have e51 : xruns (O2 L) (zden L (d + 2)) 4 51 [.ref 78, .int (nI z)] [] (zP Z c (pfA ch (jch ch) (z + 1)) (plA ch (jch ch) z)) = some (0, zP Z c (pfA ch (jch ch) n) (plA ch (jch ch) n)) := by
        rw [B4_51, J78_2, Option.bind_some, N56 rfl, Option.bind_some, zP_83, g83 z (by omega), iE (by omega) (by omega)]
        by_cases c0 : bN (ch z) = 1
        · have c0' := (bN_1 _).mp c0
          rw [if_pos c0, B4_63, J78_2, Option.bind_some, nI_add, N56 rfl, Option.bind_some, zP_83]
          have add : (ch z && !jch ch z) = true → xruns (O2 L) (zden L (d + 2)) 4 77 [.ref 78, .int (nI z)] [] (zP Z c (pfA ch (jch ch) (z + 1)) (plA ch (jch ch) z)) = some (0, zP Z c (pfA ch (jch ch) n) (plA ch (jch ch) n)) := by
            intro q
            rw [if_pos q] at e2
            have : (plA ch (jch ch) z).length < 9 := by rw [e2, List.length_append] at l2; simp only [List.length_cons, List.length_nil] at l2; omega
            rw [B4_77, J78_1, Option.bind_some, N61 rfl, Option.bind_some, zP_81, show zmo 81 = 9 from rfl, zadd_map this, zP_s81, ← e2]
            exact e85
          by_cases cz : z + 1 < n
          · have bl' := bN_le (ch (z + 1))
            rw [g83 (z + 1) cz, iE (by omega) (by omega)]
            by_cases c2 : bN (ch (z + 1)) = 1
            · rw [if_neg (by unfold jch; rw [c0', (bN_1 _).mp c2]; decide)] at e2
              rw [if_pos c2, ← e2]
              exact e85
            · rw [if_neg c2]
              exact add (by unfold jch; rw [c0', (bN_0 (ch (z + 1))).mp (by omega)]; rfl)
          · have gz : zget (c.map nI) (nI (z + 1)) = -1 := by rw [show z + 1 = n by omega]; exact gout
            rw [gz, if_neg (show ¬ (-1 : Int32) = nI 1 from by decide)]
            exact add (by
              have : ch (z + 1) = false := by
                cases hq : ch (z + 1)
                · rfl
                · have := hJ.2 _ hq; omega
              unfold jch; rw [c0', this]; rfl)
        · rw [if_neg (by rw [(bN_0 (ch z)).mp (by omega)]; simp)] at e2
          rw [if_neg c0, ← e2]
          exact e85
      rw [B4_6, J78_2, Option.bind_some, N55 rfl, Option.bind_some, zP_83, hc, List.length_map, List.length_map, List.length_range, iL (by omega) (by omega), if_neg (by omega), B4_17, ← hc, J78_2, Option.bind_some, N56 rfl, Option.bind_some, zP_83, g83 z (by omega), iE (by omega) (by omega)]
      by_cases c0 : bN (ch z) = 1
      · have c0' := (bN_1 _).mp c0
        have add : (ch z && !(decide (z ≠ 0) && jch ch (z - 1))) = true → xruns (O2 L) (zden L (d + 2)) 4 43 [.ref 78, .int (nI z)] [] (zP Z c (pfA ch (jch ch) z) (plA ch (jch ch) z)) = some (0, zP Z c (pfA ch (jch ch) n) (plA ch (jch ch) n)) := by
          intro q
          rw [if_pos q] at e1
          have : (pfA ch (jch ch) z).length < 9 := by rw [e1, List.length_append] at l1; simp only [List.length_cons, List.length_nil] at l1; omega
          rw [B4_43, J78_0, Option.bind_some, N61 rfl, Option.bind_some, zP_79, show zmo 79 = 9 from rfl, zadd_map this, zP_s79, ← e1]
          exact e51
        rw [if_pos c0, B4_29, J78_2, Option.bind_some]
        by_cases z0 : z = 0
        · subst z0
          rw [N56 rfl, Option.bind_some, zget_neg (by decide), if_neg (show ¬ (-1 : Int32) = nI 1 from by decide)]
          exact add (by rw [c0']; simp)
        · have bl' := bN_le (ch (z - 1))
          rw [pk_sub (by omega), N56 rfl, Option.bind_some, zP_83, g83 (z - 1) (by omega), iE (by omega) (by omega)]
          by_cases c2 : bN (ch (z - 1)) = 1
          · rw [if_neg (by unfold jch; rw [(bN_1 _).mp c2, show z - 1 + 1 = z by omega, c0', decide_eq_true z0]; decide)] at e1
            rw [if_pos c2, ← e1]
            exact e51
          · rw [if_neg c2]
            exact add (by unfold jch; rw [c0', (bN_0 (ch (z - 1))).mp (by omega)]; simp)
      · rw [if_neg (by rw [(bN_0 (ch z)).mp (by omega)]; simp)] at e1
        rw [if_neg c0, ← e1]
        exact e51
  rw [N4 _ ob78, B4_0, x1, Option.bind_some, show ([] : List Int32) = ([] : List Nat).map nI from rfl, zP_s79, zP_s81]
  exact loop n 0 (by omega)
theorem x2 {sc : Nat → Nat} {n k : Nat} (hn : n ≤ 300) (hsc : ∀ z, sc z < 2 ^ 31) (h60 : Z.1 60 = ((List.range n).map sc).map nI) (k1 : 1 ≤ k) (k9 : k ≤ 9) : ∃ c', zden L (d + 4) 2 [.ref 78, .ref 60, .int (nI k)] (zP Z c a b) = some (0, zP Z c' (pfA (fch sc n k) (jch (fch sc n k)) n) (plA (fch sc n k) (jch (fch sc n k)) n)) := by
  have gat : ∀ c' : List Nat, c' = (List.range n).map (fun z => bN (fch sc n k z)) → zden L (d + 3) 4 [.ref 78] (zP Z c' a b) = some (0, zP Z c' (pfA (fch sc n k) (jch (fch sc n k)) n) (plA (fch sc n k) (jch (fch sc n k)) n)) := fun c' hc' => x4 hn hc' (jdm_fch sc n k) (fun z hz => by have := pfA_le9 (fch_cnt (sc := sc) (n := n) k1) hz; omega)
  have fill : zden L (d + 3) 64 [.ref 83, .int (nI n), .int (nI 0)] (zP Z c a b) = some (0, zP Z ((List.range n).map (fun z => bN ((fun _ => false) z))) a b) := by
    rw [N64 rfl, show zmo 83 = 300 from rfl, zfill hn (by omega), zP_s83]
    congr 3
    rw [show (fun z : Nat => bN ((fun _ => false) z)) = fun _ => 0 from rfl, List.map_const', List.length_range]
  refine ⟨(List.range n).map (fun z => bN (fch sc n k z)), ?_⟩
  rw [N2 _ _ _ ob78, B2_0, J78_2, Option.bind_some, N55 rfl, Option.bind_some, zP_60, h60, List.length_map, List.length_map, List.length_range, fill, Option.bind_some, x3 hn hsc h60 rfl, Option.bind_some]
  cases hb : bst sc (fun _ => false) n with
  | none =>
    have z0 : ∀ z, z < n → sc z = 0 := fun z hz => bst_none hb z hz rfl
    have e : (List.range n).map (fun z => bN (fch sc n k z)) = (List.range n).map (fun z => bN (chN (fun _ => false) (some 0) z)) := List.map_congr_left (fun z hz => by
      have := List.mem_range.mp hz
      unfold fch
      rw [hb]
      show bN (decide (z = 0) && decide (z < n)) = bN (false || decide (z = 0))
      rw [decide_eq_true this, Bool.and_true, Bool.false_or])
    have loop : ∀ (r i : Nat), i + r = k → xruns (O2 L) (zden L (d + 3)) 2 32 [.ref 78, .ref 60, .int (nI k), .int (nI i)] [] (zP Z ((List.range n).map (fun z => bN (chN (fun _ => false) (some 0) z))) a b) = some (0, zP Z ((List.range n).map (fun z => bN (fch sc n k z))) (pfA (fch sc n k) (jch (fch sc n k)) n) (plA (fch sc n k) (jch (fch sc n k)) n)) := by
      intro r
      induction r with
      | zero =>
        intro i hi
        have : i = k := by omega
        subst this
        rw [B2_32, if_pos (nI_le (Nat.le_refl _) (by omega)), B2_56, ← e, gat _ rfl, Option.bind_some]
      | succ r ih =>
        intro i hi
        rw [B2_32, iL (by omega) (by omega), if_neg (by omega), B2_37, J78_2, Option.bind_some, x3 (ch := chN (fun _ => false) (some 0)) hn hsc h60 rfl, Option.bind_some, bst_zero z0]
        have e58 := x58c (L := L) (d := d + 2) (Z := Z) (a := a) (b := b) (ch := chN (fun _ => false) (some 0)) hn rfl none (fun q h => by cases h)
        rw [e58, Option.bind_some, nI_add]
        exact ih (i + 1) (by omega)
    rw [show fI none = -1 from rfl, if_pos rfl, B2_21, J78_2, Option.bind_some]
    have e58 := x58c (L := L) (d := d + 2) (Z := Z) (a := a) (b := b) (ch := fun _ => false) hn rfl (some 0) (fun q h => by cases h; omega)
    have e58 : zden L (d + 3) 58 [.ref 83, .int (nI 0), .int (nI 1)] (zP Z ((List.range n).map (fun z => bN ((fun _ => false) z))) a b) = _ := e58
    rw [e58, Option.bind_some, B2_30]
    exact loop k 0 (by omega)
  | some q =>
    have e : fch sc n k = chs sc n k := by funext z; unfold fch; rw [hb]
    have loop : ∀ (r i : Nat), i + r = k → xruns (O2 L) (zden L (d + 3)) 2 32 [.ref 78, .ref 60, .int (nI k), .int (nI i)] [] (zP Z ((List.range n).map (fun z => bN (chs sc n i z))) a b) = some (0, zP Z ((List.range n).map (fun z => bN (fch sc n k z))) (pfA (fch sc n k) (jch (fch sc n k)) n) (plA (fch sc n k) (jch (fch sc n k)) n)) := by
      intro r
      induction r with
      | zero =>
        intro i hi
        have : i = k := by omega
        subst this
        rw [B2_32, if_pos (nI_le (Nat.le_refl _) (by omega)), B2_56, gat _ (by rw [e]), Option.bind_some, e]
      | succ r ih =>
        intro i hi
        rw [B2_32, iL (by omega) (by omega), if_neg (by omega), B2_37, J78_2, Option.bind_some, x3 (ch := chs sc n i) hn hsc h60 rfl, Option.bind_some]
        have e58 := x58c (L := L) (d := d + 2) (Z := Z) (a := a) (b := b) (ch := chs sc n i) hn rfl (bst sc (chs sc n i) n) (fun q h => by have := (bst_lt h).1; omega)
        rw [e58, Option.bind_some, nI_add]
        exact ih (i + 1) (by omega)
    have := (bst_lt hb).1
    show (if nI q = -1 then _ else _) = _
    rw [if_neg (fun h => m1_ne (show q < 2 ^ 31 by omega) h.symm), B2_30]
    exact loop k 0 (by omega)
end
