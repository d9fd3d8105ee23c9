/-! THE CLASS'S MATCH as one value: rows 0 .. 13 (leafCounts, leafLit, marked, placeFirst, placeLast, scores, fits, firsts, inWays, joined, earliest, latest, nodeTrue, nodeLit), field 16 looked. Written by wip/whole/mkX.py -/
def putM (z : zS) (M : CT) : zS := (fun a => if 50 ≤ a ∧ a ≤ 76 ∧ a % 2 = 0 then (M.1 ((a - 50) / 2)).map nI else z.1 a, fun a f => if a = 4 ∧ f = 16 then nI (M.2 16) else z.2.1 a f, z.2.2)
section
variable {z : zS} {M : CT}
theorem gMk (k : Nat) (hk : k ≤ 13) : (putM z M).1 (50 + 2 * k) = (M.1 k).map nI := by
  unfold putM
  simp only
  rw [if_pos (by omega), show (50 + 2 * k - 50) / 2 = k by omega]
theorem gMo {a : Nat} (h : ¬ (50 ≤ a ∧ a ≤ 76 ∧ a % 2 = 0)) : (putM z M).1 a = z.1 a := if_neg h
theorem sMk (k : Nat) (hk : k ≤ 13) (l : List Nat) : zrs (putM z M) (50 + 2 * k) (l.map nI) = putM z (va_up M.1 k l, M.2) := by
  unfold zrs putM
  refine Prod.ext (funext fun a => ?_) rfl
  show va_up _ _ _ a = _
  unfold va_up
  simp only
  by_cases h : a = 50 + 2 * k
  · subst h
    rw [if_pos rfl, if_pos (by omega), if_pos (by omega)]
  · rw [if_neg h]
    by_cases h3 : 50 ≤ a ∧ a ≤ 76 ∧ a % 2 = 0
    · rw [if_pos h3, if_pos h3, if_neg (by omega)]
    · rw [if_neg h3, if_neg h3]
theorem fM (x : Nat) : ((putM z M).1, zup (putM z M).2.1 4 16 (nI x), (putM z M).2.2) = putM z (M.1, va_up M.2 16 x) := by
  refine Prod.ext rfl (Prod.ext (funext fun a => funext fun g => ?_) rfl)
  unfold zup putM
  simp only
  by_cases h : a = 4 ∧ g = 16
  · rw [if_pos h, if_pos h, vs]
  · rw [if_neg h, if_neg h, if_neg h]
theorem putM_congr {M M' : CT} (h1 : ∀ k, k ≤ 13 → M.1 k = M'.1 k) (h2 : M.2 16 = M'.2 16) : putM z M = putM z M' := by
  unfold putM
  refine Prod.ext (funext fun a => ?_) (Prod.ext (funext fun a => funext fun f => ?_) rfl)
  · simp only
    split
    · rw [h1 _ (by omega)]
    · rfl
  · simp only [h2]
end
/-- bits -/
theorem bt_nI (x i : Nat) : bt (nI x) i = (decide (i < 32) && x.testBit i) := by
  show (BitVec.ofNat 32 x).getLsbD i = _
  rw [BitVec.getLsbD_ofNat]
theorem nI_or (x y : Nat) : nI x ||| nI y = nI (x ||| y) := by
  apply b_ext
  intro i hi
  rw [b_or, bt_nI, bt_nI, bt_nI, Nat.testBit_or]
  simp [hi]
theorem nI_shl {b : Nat} (hb : b < 31) : (1 : Int32) <<< (nI b &&& 31) = nI (2 ^ b) := by
  apply b_ext
  intro i hi
  rw [b_shl b (by omega) 1 hi, bt_nI, Nat.testBit_two_pow]
  have e : bt 1 (i - b) = decide (i - b = 0) := by
    show bt (nI 1) (i - b) = _
    rw [bt_nI]
    rw [show (1 : Nat) = 2 ^ 0 from rfl, Nat.testBit_two_pow]
    have : i - b < 32 := by omega
    simp [this]
    omega
  rw [e]
  simp only [hi, decide_true, Bool.true_and]
  by_cases q : b = i
  · simp [q]
  · by_cases q2 : b ≤ i
    · have : i - b ≠ 0 := by omega
      simp [q, this]
    · simp [q, q2]
theorem nI_bit {x b : Nat} (hb : b < 31) : (if (nI x >>> (nI b &&& 31)) &&& 1 = 1 then (1 : Int32) else 0) = bI (x.testBit b) := by
  have e : (nI x >>> (nI b &&& 31)) &&& 1 = bI (x.testBit b) := by
    apply b_ext
    intro i hi
    rw [b_and, b_sshr b (by omega) (nI x) hi]
    have o : bt 1 i = decide (i = 0) := by
      show bt (nI 1) i = _
      rw [bt_nI, show (1 : Nat) = 2 ^ 0 from rfl, Nat.testBit_two_pow]
      simp [hi]
      omega
    rw [o]
    have r : bt (bI (x.testBit b)) i = (x.testBit b && decide (i = 0)) := by
      cases x.testBit b
      · show bt (nI 0) i = _
        rw [bt_nI]; simp
      · show bt (nI 1) i = _
        rw [← o, Bool.true_and]; rfl
    rw [r]
    by_cases q : i = 0
    · subst q
      rw [if_pos (by omega), Nat.add_zero, bt_nI]
      simp
      omega
    · simp [q]
  rw [e]
  cases x.testBit b
  · show (if nI 0 = 1 then (1 : Int32) else 0) = nI 0
    rw [if_neg (by decide)]; rfl
  · show (if nI 1 = 1 then (1 : Int32) else 0) = nI 1
    rw [if_pos (by decide)]; rfl
theorem zhas_map {xs : List Nat} {i b : Nat} (hi : i < 2 ^ 31) (hl : xs.length < 2 ^ 31) (hb : b < 31) : zhas (xs.map nI) (nI i) (nI b) = bI ((xs.getD i 0).testBit b) := by
  unfold zhas
  rw [List.length_map, if_neg (nI_pos hi)]
  by_cases h : i < xs.length
  · rw [if_neg (nI_ge h hl), nI_clamp hi]
    have : (xs.map nI).getD i 0 = nI (xs.getD i 0) := by simp [List.getD, h]
    rw [this, nI_bit hb]
  · rw [if_pos (nI_le (by omega) hi), gDn (by omega), Nat.zero_testBit]; rfl
theorem zhas_neg {xs : List Int32} {i b : Int32} (h : i < nI 0) : zhas xs i b = nI 0 := if_pos h
theorem zsb_map {xs : List Nat} {i b : Nat} (hi : i < xs.length) (hl : xs.length < 2 ^ 31) (hb : b < 31) : zsb (xs.map nI) (nI i) (nI b) = (xs.set i (xs.getD i 0 ||| 2 ^ b)).map nI := by
  unfold zsb
  rw [zget_map hi hl, nI_shl hb, nI_or, zset_map hi hl]
theorem zfill {n v mo : Nat} (hn : n ≤ mo) (hn2 : n < 2 ^ 31) : List.replicate (min (nI n).toNatClampNeg mo) (nI v) = (List.replicate n v).map nI := by
  rw [nI_clamp hn2, List.map_replicate, show min n mo = n by omega]
section
variable {L d : Nat} {z : zS} {M : CT}
theorem gM0 : (putM z M).1 50 = (M.1 0).map nI := gMk 0 (by omega)
theorem sM0 (l : List Nat) : zrs (putM z M) 50 (l.map nI) = putM z (va_up M.1 0 l, M.2) := sMk 0 (by omega) l
theorem X0s : zden L (d + 1) 55 [.ref 50] (putM z M) = some (nI (M.1 0).length, putM z M) := by
  rw [N55 rfl, gM0, List.length_map]
theorem X0g (i : Int32) : zden L (d + 1) 56 [.ref 50, .int i] (putM z M) = some (zget ((M.1 0).map nI) i, putM z M) := by
  rw [N56 rfl, gM0]
theorem X0w {i v : Nat} (hi : i < (M.1 0).length) (hl : (M.1 0).length ≤ 400) : zden L (d + 1) 58 [.ref 50, .int (nI i), .int (nI v)] (putM z M) = some (0, putM z (va_up M.1 0 ((M.1 0).set i v), M.2)) := by
  rw [N58 rfl, gM0, zset_map hi (by omega), sM0]
theorem X0b {i b : Nat} (hi : i < (M.1 0).length) (hl : (M.1 0).length ≤ 400) (hb : b < 31) : zden L (d + 1) 59 [.ref 50, .int (nI i), .int (nI b)] (putM z M) = some (0, putM z (va_up M.1 0 ((M.1 0).set i ((M.1 0).getD i 0 ||| 2 ^ b)), M.2)) := by
  rw [N59 rfl, gM0, zsb_map hi (by omega) hb, sM0]
theorem X0h {i b : Nat} (hi : i < 2 ^ 31) (hl : (M.1 0).length ≤ 400) (hb : b < 31) : zden L (d + 1) 60 [.ref 50, .int (nI i), .int (nI b)] (putM z M) = some (bI (((M.1 0).getD i 0).testBit b), putM z M) := by
  rw [N60 rfl, gM0, zhas_map hi (by omega) hb]
theorem X0a (v : Nat) (hl : (M.1 0).length < 12) : zden L (d + 2) 61 [.ref 50, .int (nI v)] (putM z M) = some (0, putM z (va_up M.1 0 (M.1 0 ++ [v]), M.2)) := by
  rw [N61 rfl, gM0, show zmo 50 = 12 from rfl, zadd_map hl, sM0]
theorem X0c : zden L (d + 1) 63 [.ref 50] (putM z M) = some (0, putM z (va_up M.1 0 [], M.2)) := by
  rw [N63 rfl, show ([] : List Int32) = ([] : List Nat).map nI from rfl, sM0]
theorem X0f {n v : Nat} (hn : n ≤ 12) : zden L (d + 3) 64 [.ref 50, .int (nI n), .int (nI v)] (putM z M) = some (0, putM z (va_up M.1 0 (List.replicate n v), M.2)) := by
  rw [N64 rfl, show zmo 50 = 12 from rfl, zfill hn (by omega), sM0]
theorem gM1 : (putM z M).1 52 = (M.1 1).map nI := gMk 1 (by omega)
theorem sM1 (l : List Nat) : zrs (putM z M) 52 (l.map nI) = putM z (va_up M.1 1 l, M.2) := sMk 1 (by omega) l
theorem X1s : zden L (d + 1) 55 [.ref 52] (putM z M) = some (nI (M.1 1).length, putM z M) := by
  rw [N55 rfl, gM1, List.length_map]
theorem X1g (i : Int32) : zden L (d + 1) 56 [.ref 52, .int i] (putM z M) = some (zget ((M.1 1).map nI) i, putM z M) := by
  rw [N56 rfl, gM1]
theorem X1w {i v : Nat} (hi : i < (M.1 1).length) (hl : (M.1 1).length ≤ 400) : zden L (d + 1) 58 [.ref 52, .int (nI i), .int (nI v)] (putM z M) = some (0, putM z (va_up M.1 1 ((M.1 1).set i v), M.2)) := by
  rw [N58 rfl, gM1, zset_map hi (by omega), sM1]
theorem X1b {i b : Nat} (hi : i < (M.1 1).length) (hl : (M.1 1).length ≤ 400) (hb : b < 31) : zden L (d + 1) 59 [.ref 52, .int (nI i), .int (nI b)] (putM z M) = some (0, putM z (va_up M.1 1 ((M.1 1).set i ((M.1 1).getD i 0 ||| 2 ^ b)), M.2)) := by
  rw [N59 rfl, gM1, zsb_map hi (by omega) hb, sM1]
theorem X1h {i b : Nat} (hi : i < 2 ^ 31) (hl : (M.1 1).length ≤ 400) (hb : b < 31) : zden L (d + 1) 60 [.ref 52, .int (nI i), .int (nI b)] (putM z M) = some (bI (((M.1 1).getD i 0).testBit b), putM z M) := by
  rw [N60 rfl, gM1, zhas_map hi (by omega) hb]
theorem X1a (v : Nat) (hl : (M.1 1).length < 12) : zden L (d + 2) 61 [.ref 52, .int (nI v)] (putM z M) = some (0, putM z (va_up M.1 1 (M.1 1 ++ [v]), M.2)) := by
  rw [N61 rfl, gM1, show zmo 52 = 12 from rfl, zadd_map hl, sM1]
theorem X1c : zden L (d + 1) 63 [.ref 52] (putM z M) = some (0, putM z (va_up M.1 1 [], M.2)) := by
  rw [N63 rfl, show ([] : List Int32) = ([] : List Nat).map nI from rfl, sM1]
theorem X1f {n v : Nat} (hn : n ≤ 12) : zden L (d + 3) 64 [.ref 52, .int (nI n), .int (nI v)] (putM z M) = some (0, putM z (va_up M.1 1 (List.replicate n v), M.2)) := by
  rw [N64 rfl, show zmo 52 = 12 from rfl, zfill hn (by omega), sM1]
theorem gM2 : (putM z M).1 54 = (M.1 2).map nI := gMk 2 (by omega)
theorem sM2 (l : List Nat) : zrs (putM z M) 54 (l.map nI) = putM z (va_up M.1 2 l, M.2) := sMk 2 (by omega) l
theorem X2s : zden L (d + 1) 55 [.ref 54] (putM z M) = some (nI (M.1 2).length, putM z M) := by
  rw [N55 rfl, gM2, List.length_map]
theorem X2g (i : Int32) : zden L (d + 1) 56 [.ref 54, .int i] (putM z M) = some (zget ((M.1 2).map nI) i, putM z M) := by
  rw [N56 rfl, gM2]
theorem X2w {i v : Nat} (hi : i < (M.1 2).length) (hl : (M.1 2).length ≤ 400) : zden L (d + 1) 58 [.ref 54, .int (nI i), .int (nI v)] (putM z M) = some (0, putM z (va_up M.1 2 ((M.1 2).set i v), M.2)) := by
  rw [N58 rfl, gM2, zset_map hi (by omega), sM2]
theorem X2b {i b : Nat} (hi : i < (M.1 2).length) (hl : (M.1 2).length ≤ 400) (hb : b < 31) : zden L (d + 1) 59 [.ref 54, .int (nI i), .int (nI b)] (putM z M) = some (0, putM z (va_up M.1 2 ((M.1 2).set i ((M.1 2).getD i 0 ||| 2 ^ b)), M.2)) := by
  rw [N59 rfl, gM2, zsb_map hi (by omega) hb, sM2]
theorem X2h {i b : Nat} (hi : i < 2 ^ 31) (hl : (M.1 2).length ≤ 400) (hb : b < 31) : zden L (d + 1) 60 [.ref 54, .int (nI i), .int (nI b)] (putM z M) = some (bI (((M.1 2).getD i 0).testBit b), putM z M) := by
  rw [N60 rfl, gM2, zhas_map hi (by omega) hb]
theorem X2a (v : Nat) (hl : (M.1 2).length < 300) : zden L (d + 2) 61 [.ref 54, .int (nI v)] (putM z M) = some (0, putM z (va_up M.1 2 (M.1 2 ++ [v]), M.2)) := by
  rw [N61 rfl, gM2, show zmo 54 = 300 from rfl, zadd_map hl, sM2]
theorem X2c : zden L (d + 1) 63 [.ref 54] (putM z M) = some (0, putM z (va_up M.1 2 [], M.2)) := by
  rw [N63 rfl, show ([] : List Int32) = ([] : List Nat).map nI from rfl, sM2]
theorem X2f {n v : Nat} (hn : n ≤ 300) : zden L (d + 3) 64 [.ref 54, .int (nI n), .int (nI v)] (putM z M) = some (0, putM z (va_up M.1 2 (List.replicate n v), M.2)) := by
  rw [N64 rfl, show zmo 54 = 300 from rfl, zfill hn (by omega), sM2]
theorem gM3 : (putM z M).1 56 = (M.1 3).map nI := gMk 3 (by omega)
theorem sM3 (l : List Nat) : zrs (putM z M) 56 (l.map nI) = putM z (va_up M.1 3 l, M.2) := sMk 3 (by omega) l
theorem X3s : zden L (d + 1) 55 [.ref 56] (putM z M) = some (nI (M.1 3).length, putM z M) := by
  rw [N55 rfl, gM3, List.length_map]
theorem X3g (i : Int32) : zden L (d + 1) 56 [.ref 56, .int i] (putM z M) = some (zget ((M.1 3).map nI) i, putM z M) := by
  rw [N56 rfl, gM3]
theorem X3w {i v : Nat} (hi : i < (M.1 3).length) (hl : (M.1 3).length ≤ 400) : zden L (d + 1) 58 [.ref 56, .int (nI i), .int (nI v)] (putM z M) = some (0, putM z (va_up M.1 3 ((M.1 3).set i v), M.2)) := by
  rw [N58 rfl, gM3, zset_map hi (by omega), sM3]
theorem X3b {i b : Nat} (hi : i < (M.1 3).length) (hl : (M.1 3).length ≤ 400) (hb : b < 31) : zden L (d + 1) 59 [.ref 56, .int (nI i), .int (nI b)] (putM z M) = some (0, putM z (va_up M.1 3 ((M.1 3).set i ((M.1 3).getD i 0 ||| 2 ^ b)), M.2)) := by
  rw [N59 rfl, gM3, zsb_map hi (by omega) hb, sM3]
theorem X3h {i b : Nat} (hi : i < 2 ^ 31) (hl : (M.1 3).length ≤ 400) (hb : b < 31) : zden L (d + 1) 60 [.ref 56, .int (nI i), .int (nI b)] (putM z M) = some (bI (((M.1 3).getD i 0).testBit b), putM z M) := by
  rw [N60 rfl, gM3, zhas_map hi (by omega) hb]
theorem X3a (v : Nat) (hl : (M.1 3).length < 300) : zden L (d + 2) 61 [.ref 56, .int (nI v)] (putM z M) = some (0, putM z (va_up M.1 3 (M.1 3 ++ [v]), M.2)) := by
  rw [N61 rfl, gM3, show zmo 56 = 300 from rfl, zadd_map hl, sM3]
theorem X3c : zden L (d + 1) 63 [.ref 56] (putM z M) = some (0, putM z (va_up M.1 3 [], M.2)) := by
  rw [N63 rfl, show ([] : List Int32) = ([] : List Nat).map nI from rfl, sM3]
theorem X3f {n v : Nat} (hn : n ≤ 300) : zden L (d + 3) 64 [.ref 56, .int (nI n), .int (nI v)] (putM z M) = some (0, putM z (va_up M.1 3 (List.replicate n v), M.2)) := by
  rw [N64 rfl, show zmo 56 = 300 from rfl, zfill hn (by omega), sM3]
theorem gM4 : (putM z M).1 58 = (M.1 4).map nI := gMk 4 (by omega)
theorem sM4 (l : List Nat) : zrs (putM z M) 58 (l.map nI) = putM z (va_up M.1 4 l, M.2) := sMk 4 (by omega) l
theorem X4s : zden L (d + 1) 55 [.ref 58] (putM z M) = some (nI (M.1 4).length, putM z M) := by
  rw [N55 rfl, gM4, List.length_map]
theorem X4g (i : Int32) : zden L (d + 1) 56 [.ref 58, .int i] (putM z M) = some (zget ((M.1 4).map nI) i, putM z M) := by
  rw [N56 rfl, gM4]
theorem X4w {i v : Nat} (hi : i < (M.1 4).length) (hl : (M.1 4).length ≤ 400) : zden L (d + 1) 58 [.ref 58, .int (nI i), .int (nI v)] (putM z M) = some (0, putM z (va_up M.1 4 ((M.1 4).set i v), M.2)) := by
  rw [N58 rfl, gM4, zset_map hi (by omega), sM4]
theorem X4b {i b : Nat} (hi : i < (M.1 4).length) (hl : (M.1 4).length ≤ 400) (hb : b < 31) : zden L (d + 1) 59 [.ref 58, .int (nI i), .int (nI b)] (putM z M) = some (0, putM z (va_up M.1 4 ((M.1 4).set i ((M.1 4).getD i 0 ||| 2 ^ b)), M.2)) := by
  rw [N59 rfl, gM4, zsb_map hi (by omega) hb, sM4]
theorem X4h {i b : Nat} (hi : i < 2 ^ 31) (hl : (M.1 4).length ≤ 400) (hb : b < 31) : zden L (d + 1) 60 [.ref 58, .int (nI i), .int (nI b)] (putM z M) = some (bI (((M.1 4).getD i 0).testBit b), putM z M) := by
  rw [N60 rfl, gM4, zhas_map hi (by omega) hb]
theorem X4a (v : Nat) (hl : (M.1 4).length < 300) : zden L (d + 2) 61 [.ref 58, .int (nI v)] (putM z M) = some (0, putM z (va_up M.1 4 (M.1 4 ++ [v]), M.2)) := by
  rw [N61 rfl, gM4, show zmo 58 = 300 from rfl, zadd_map hl, sM4]
theorem X4c : zden L (d + 1) 63 [.ref 58] (putM z M) = some (0, putM z (va_up M.1 4 [], M.2)) := by
  rw [N63 rfl, show ([] : List Int32) = ([] : List Nat).map nI from rfl, sM4]
theorem X4f {n v : Nat} (hn : n ≤ 300) : zden L (d + 3) 64 [.ref 58, .int (nI n), .int (nI v)] (putM z M) = some (0, putM z (va_up M.1 4 (List.replicate n v), M.2)) := by
  rw [N64 rfl, show zmo 58 = 300 from rfl, zfill hn (by omega), sM4]
theorem gM5 : (putM z M).1 60 = (M.1 5).map nI := gMk 5 (by omega)
theorem sM5 (l : List Nat) : zrs (putM z M) 60 (l.map nI) = putM z (va_up M.1 5 l, M.2) := sMk 5 (by omega) l
theorem X5s : zden L (d + 1) 55 [.ref 60] (putM z M) = some (nI (M.1 5).length, putM z M) := by
  rw [N55 rfl, gM5, List.length_map]
theorem X5g (i : Int32) : zden L (d + 1) 56 [.ref 60, .int i] (putM z M) = some (zget ((M.1 5).map nI) i, putM z M) := by
  rw [N56 rfl, gM5]
theorem X5w {i v : Nat} (hi : i < (M.1 5).length) (hl : (M.1 5).length ≤ 400) : zden L (d + 1) 58 [.ref 60, .int (nI i), .int (nI v)] (putM z M) = some (0, putM z (va_up M.1 5 ((M.1 5).set i v), M.2)) := by
  rw [N58 rfl, gM5, zset_map hi (by omega), sM5]
theorem X5b {i b : Nat} (hi : i < (M.1 5).length) (hl : (M.1 5).length ≤ 400) (hb : b < 31) : zden L (d + 1) 59 [.ref 60, .int (nI i), .int (nI b)] (putM z M) = some (0, putM z (va_up M.1 5 ((M.1 5).set i ((M.1 5).getD i 0 ||| 2 ^ b)), M.2)) := by
  rw [N59 rfl, gM5, zsb_map hi (by omega) hb, sM5]
theorem X5h {i b : Nat} (hi : i < 2 ^ 31) (hl : (M.1 5).length ≤ 400) (hb : b < 31) : zden L (d + 1) 60 [.ref 60, .int (nI i), .int (nI b)] (putM z M) = some (bI (((M.1 5).getD i 0).testBit b), putM z M) := by
  rw [N60 rfl, gM5, zhas_map hi (by omega) hb]
theorem X5a (v : Nat) (hl : (M.1 5).length < 300) : zden L (d + 2) 61 [.ref 60, .int (nI v)] (putM z M) = some (0, putM z (va_up M.1 5 (M.1 5 ++ [v]), M.2)) := by
  rw [N61 rfl, gM5, show zmo 60 = 300 from rfl, zadd_map hl, sM5]
theorem X5c : zden L (d + 1) 63 [.ref 60] (putM z M) = some (0, putM z (va_up M.1 5 [], M.2)) := by
  rw [N63 rfl, show ([] : List Int32) = ([] : List Nat).map nI from rfl, sM5]
theorem X5f {n v : Nat} (hn : n ≤ 300) : zden L (d + 3) 64 [.ref 60, .int (nI n), .int (nI v)] (putM z M) = some (0, putM z (va_up M.1 5 (List.replicate n v), M.2)) := by
  rw [N64 rfl, show zmo 60 = 300 from rfl, zfill hn (by omega), sM5]
theorem gM6 : (putM z M).1 62 = (M.1 6).map nI := gMk 6 (by omega)
theorem sM6 (l : List Nat) : zrs (putM z M) 62 (l.map nI) = putM z (va_up M.1 6 l, M.2) := sMk 6 (by omega) l
theorem X6s : zden L (d + 1) 55 [.ref 62] (putM z M) = some (nI (M.1 6).length, putM z M) := by
  rw [N55 rfl, gM6, List.length_map]
theorem X6g (i : Int32) : zden L (d + 1) 56 [.ref 62, .int i] (putM z M) = some (zget ((M.1 6).map nI) i, putM z M) := by
  rw [N56 rfl, gM6]
theorem X6w {i v : Nat} (hi : i < (M.1 6).length) (hl : (M.1 6).length ≤ 400) : zden L (d + 1) 58 [.ref 62, .int (nI i), .int (nI v)] (putM z M) = some (0, putM z (va_up M.1 6 ((M.1 6).set i v), M.2)) := by
  rw [N58 rfl, gM6, zset_map hi (by omega), sM6]
theorem X6b {i b : Nat} (hi : i < (M.1 6).length) (hl : (M.1 6).length ≤ 400) (hb : b < 31) : zden L (d + 1) 59 [.ref 62, .int (nI i), .int (nI b)] (putM z M) = some (0, putM z (va_up M.1 6 ((M.1 6).set i ((M.1 6).getD i 0 ||| 2 ^ b)), M.2)) := by
  rw [N59 rfl, gM6, zsb_map hi (by omega) hb, sM6]
theorem X6h {i b : Nat} (hi : i < 2 ^ 31) (hl : (M.1 6).length ≤ 400) (hb : b < 31) : zden L (d + 1) 60 [.ref 62, .int (nI i), .int (nI b)] (putM z M) = some (bI (((M.1 6).getD i 0).testBit b), putM z M) := by
  rw [N60 rfl, gM6, zhas_map hi (by omega) hb]
theorem X6a (v : Nat) (hl : (M.1 6).length < 300) : zden L (d + 2) 61 [.ref 62, .int (nI v)] (putM z M) = some (0, putM z (va_up M.1 6 (M.1 6 ++ [v]), M.2)) := by
  rw [N61 rfl, gM6, show zmo 62 = 300 from rfl, zadd_map hl, sM6]
theorem X6c : zden L (d + 1) 63 [.ref 62] (putM z M) = some (0, putM z (va_up M.1 6 [], M.2)) := by
  rw [N63 rfl, show ([] : List Int32) = ([] : List Nat).map nI from rfl, sM6]
theorem X6f {n v : Nat} (hn : n ≤ 300) : zden L (d + 3) 64 [.ref 62, .int (nI n), .int (nI v)] (putM z M) = some (0, putM z (va_up M.1 6 (List.replicate n v), M.2)) := by
  rw [N64 rfl, show zmo 62 = 300 from rfl, zfill hn (by omega), sM6]
theorem gM7 : (putM z M).1 64 = (M.1 7).map nI := gMk 7 (by omega)
theorem sM7 (l : List Nat) : zrs (putM z M) 64 (l.map nI) = putM z (va_up M.1 7 l, M.2) := sMk 7 (by omega) l
theorem X7s : zden L (d + 1) 55 [.ref 64] (putM z M) = some (nI (M.1 7).length, putM z M) := by
  rw [N55 rfl, gM7, List.length_map]
theorem X7g (i : Int32) : zden L (d + 1) 56 [.ref 64, .int i] (putM z M) = some (zget ((M.1 7).map nI) i, putM z M) := by
  rw [N56 rfl, gM7]
theorem X7w {i v : Nat} (hi : i < (M.1 7).length) (hl : (M.1 7).length ≤ 400) : zden L (d + 1) 58 [.ref 64, .int (nI i), .int (nI v)] (putM z M) = some (0, putM z (va_up M.1 7 ((M.1 7).set i v), M.2)) := by
  rw [N58 rfl, gM7, zset_map hi (by omega), sM7]
theorem X7b {i b : Nat} (hi : i < (M.1 7).length) (hl : (M.1 7).length ≤ 400) (hb : b < 31) : zden L (d + 1) 59 [.ref 64, .int (nI i), .int (nI b)] (putM z M) = some (0, putM z (va_up M.1 7 ((M.1 7).set i ((M.1 7).getD i 0 ||| 2 ^ b)), M.2)) := by
  rw [N59 rfl, gM7, zsb_map hi (by omega) hb, sM7]
theorem X7h {i b : Nat} (hi : i < 2 ^ 31) (hl : (M.1 7).length ≤ 400) (hb : b < 31) : zden L (d + 1) 60 [.ref 64, .int (nI i), .int (nI b)] (putM z M) = some (bI (((M.1 7).getD i 0).testBit b), putM z M) := by
  rw [N60 rfl, gM7, zhas_map hi (by omega) hb]
theorem X7a (v : Nat) (hl : (M.1 7).length < 300) : zden L (d + 2) 61 [.ref 64, .int (nI v)] (putM z M) = some (0, putM z (va_up M.1 7 (M.1 7 ++ [v]), M.2)) := by
  rw [N61 rfl, gM7, show zmo 64 = 300 from rfl, zadd_map hl, sM7]
theorem X7c : zden L (d + 1) 63 [.ref 64] (putM z M) = some (0, putM z (va_up M.1 7 [], M.2)) := by
  rw [N63 rfl, show ([] : List Int32) = ([] : List Nat).map nI from rfl, sM7]
theorem X7f {n v : Nat} (hn : n ≤ 300) : zden L (d + 3) 64 [.ref 64, .int (nI n), .int (nI v)] (putM z M) = some (0, putM z (va_up M.1 7 (List.replicate n v), M.2)) := by
  rw [N64 rfl, show zmo 64 = 300 from rfl, zfill hn (by omega), sM7]
theorem gM8 : (putM z M).1 66 = (M.1 8).map nI := gMk 8 (by omega)
theorem sM8 (l : List Nat) : zrs (putM z M) 66 (l.map nI) = putM z (va_up M.1 8 l, M.2) := sMk 8 (by omega) l
theorem X8s : zden L (d + 1) 55 [.ref 66] (putM z M) = some (nI (M.1 8).length, putM z M) := by
  rw [N55 rfl, gM8, List.length_map]
theorem X8g (i : Int32) : zden L (d + 1) 56 [.ref 66, .int i] (putM z M) = some (zget ((M.1 8).map nI) i, putM z M) := by
  rw [N56 rfl, gM8]
theorem X8w {i v : Nat} (hi : i < (M.1 8).length) (hl : (M.1 8).length ≤ 400) : zden L (d + 1) 58 [.ref 66, .int (nI i), .int (nI v)] (putM z M) = some (0, putM z (va_up M.1 8 ((M.1 8).set i v), M.2)) := by
  rw [N58 rfl, gM8, zset_map hi (by omega), sM8]
theorem X8b {i b : Nat} (hi : i < (M.1 8).length) (hl : (M.1 8).length ≤ 400) (hb : b < 31) : zden L (d + 1) 59 [.ref 66, .int (nI i), .int (nI b)] (putM z M) = some (0, putM z (va_up M.1 8 ((M.1 8).set i ((M.1 8).getD i 0 ||| 2 ^ b)), M.2)) := by
  rw [N59 rfl, gM8, zsb_map hi (by omega) hb, sM8]
theorem X8h {i b : Nat} (hi : i < 2 ^ 31) (hl : (M.1 8).length ≤ 400) (hb : b < 31) : zden L (d + 1) 60 [.ref 66, .int (nI i), .int (nI b)] (putM z M) = some (bI (((M.1 8).getD i 0).testBit b), putM z M) := by
  rw [N60 rfl, gM8, zhas_map hi (by omega) hb]
theorem X8a (v : Nat) (hl : (M.1 8).length < 300) : zden L (d + 2) 61 [.ref 66, .int (nI v)] (putM z M) = some (0, putM z (va_up M.1 8 (M.1 8 ++ [v]), M.2)) := by
  rw [N61 rfl, gM8, show zmo 66 = 300 from rfl, zadd_map hl, sM8]
theorem X8c : zden L (d + 1) 63 [.ref 66] (putM z M) = some (0, putM z (va_up M.1 8 [], M.2)) := by
  rw [N63 rfl, show ([] : List Int32) = ([] : List Nat).map nI from rfl, sM8]
theorem X8f {n v : Nat} (hn : n ≤ 300) : zden L (d + 3) 64 [.ref 66, .int (nI n), .int (nI v)] (putM z M) = some (0, putM z (va_up M.1 8 (List.replicate n v), M.2)) := by
  rw [N64 rfl, show zmo 66 = 300 from rfl, zfill hn (by omega), sM8]
theorem gM9 : (putM z M).1 68 = (M.1 9).map nI := gMk 9 (by omega)
theorem sM9 (l : List Nat) : zrs (putM z M) 68 (l.map nI) = putM z (va_up M.1 9 l, M.2) := sMk 9 (by omega) l
theorem X9s : zden L (d + 1) 55 [.ref 68] (putM z M) = some (nI (M.1 9).length, putM z M) := by
  rw [N55 rfl, gM9, List.length_map]
theorem X9g (i : Int32) : zden L (d + 1) 56 [.ref 68, .int i] (putM z M) = some (zget ((M.1 9).map nI) i, putM z M) := by
  rw [N56 rfl, gM9]
theorem X9w {i v : Nat} (hi : i < (M.1 9).length) (hl : (M.1 9).length ≤ 400) : zden L (d + 1) 58 [.ref 68, .int (nI i), .int (nI v)] (putM z M) = some (0, putM z (va_up M.1 9 ((M.1 9).set i v), M.2)) := by
  rw [N58 rfl, gM9, zset_map hi (by omega), sM9]
theorem X9b {i b : Nat} (hi : i < (M.1 9).length) (hl : (M.1 9).length ≤ 400) (hb : b < 31) : zden L (d + 1) 59 [.ref 68, .int (nI i), .int (nI b)] (putM z M) = some (0, putM z (va_up M.1 9 ((M.1 9).set i ((M.1 9).getD i 0 ||| 2 ^ b)), M.2)) := by
  rw [N59 rfl, gM9, zsb_map hi (by omega) hb, sM9]
theorem X9h {i b : Nat} (hi : i < 2 ^ 31) (hl : (M.1 9).length ≤ 400) (hb : b < 31) : zden L (d + 1) 60 [.ref 68, .int (nI i), .int (nI b)] (putM z M) = some (bI (((M.1 9).getD i 0).testBit b), putM z M) := by
  rw [N60 rfl, gM9, zhas_map hi (by omega) hb]
theorem X9a (v : Nat) (hl : (M.1 9).length < 300) : zden L (d + 2) 61 [.ref 68, .int (nI v)] (putM z M) = some (0, putM z (va_up M.1 9 (M.1 9 ++ [v]), M.2)) := by
  rw [N61 rfl, gM9, show zmo 68 = 300 from rfl, zadd_map hl, sM9]
theorem X9c : zden L (d + 1) 63 [.ref 68] (putM z M) = some (0, putM z (va_up M.1 9 [], M.2)) := by
  rw [N63 rfl, show ([] : List Int32) = ([] : List Nat).map nI from rfl, sM9]
theorem X9f {n v : Nat} (hn : n ≤ 300) : zden L (d + 3) 64 [.ref 68, .int (nI n), .int (nI v)] (putM z M) = some (0, putM z (va_up M.1 9 (List.replicate n v), M.2)) := by
  rw [N64 rfl, show zmo 68 = 300 from rfl, zfill hn (by omega), sM9]
theorem gM10 : (putM z M).1 70 = (M.1 10).map nI := gMk 10 (by omega)
theorem sM10 (l : List Nat) : zrs (putM z M) 70 (l.map nI) = putM z (va_up M.1 10 l, M.2) := sMk 10 (by omega) l
theorem X10s : zden L (d + 1) 55 [.ref 70] (putM z M) = some (nI (M.1 10).length, putM z M) := by
  rw [N55 rfl, gM10, List.length_map]
theorem X10g (i : Int32) : zden L (d + 1) 56 [.ref 70, .int i] (putM z M) = some (zget ((M.1 10).map nI) i, putM z M) := by
  rw [N56 rfl, gM10]
theorem X10w {i v : Nat} (hi : i < (M.1 10).length) (hl : (M.1 10).length ≤ 400) : zden L (d + 1) 58 [.ref 70, .int (nI i), .int (nI v)] (putM z M) = some (0, putM z (va_up M.1 10 ((M.1 10).set i v), M.2)) := by
  rw [N58 rfl, gM10, zset_map hi (by omega), sM10]
theorem X10b {i b : Nat} (hi : i < (M.1 10).length) (hl : (M.1 10).length ≤ 400) (hb : b < 31) : zden L (d + 1) 59 [.ref 70, .int (nI i), .int (nI b)] (putM z M) = some (0, putM z (va_up M.1 10 ((M.1 10).set i ((M.1 10).getD i 0 ||| 2 ^ b)), M.2)) := by
  rw [N59 rfl, gM10, zsb_map hi (by omega) hb, sM10]
theorem X10h {i b : Nat} (hi : i < 2 ^ 31) (hl : (M.1 10).length ≤ 400) (hb : b < 31) : zden L (d + 1) 60 [.ref 70, .int (nI i), .int (nI b)] (putM z M) = some (bI (((M.1 10).getD i 0).testBit b), putM z M) := by
  rw [N60 rfl, gM10, zhas_map hi (by omega) hb]
theorem X10a (v : Nat) (hl : (M.1 10).length < 6) : zden L (d + 2) 61 [.ref 70, .int (nI v)] (putM z M) = some (0, putM z (va_up M.1 10 (M.1 10 ++ [v]), M.2)) := by
  rw [N61 rfl, gM10, show zmo 70 = 6 from rfl, zadd_map hl, sM10]
theorem X10c : zden L (d + 1) 63 [.ref 70] (putM z M) = some (0, putM z (va_up M.1 10 [], M.2)) := by
  rw [N63 rfl, show ([] : List Int32) = ([] : List Nat).map nI from rfl, sM10]
theorem X10f {n v : Nat} (hn : n ≤ 6) : zden L (d + 3) 64 [.ref 70, .int (nI n), .int (nI v)] (putM z M) = some (0, putM z (va_up M.1 10 (List.replicate n v), M.2)) := by
  rw [N64 rfl, show zmo 70 = 6 from rfl, zfill hn (by omega), sM10]
theorem gM11 : (putM z M).1 72 = (M.1 11).map nI := gMk 11 (by omega)
theorem sM11 (l : List Nat) : zrs (putM z M) 72 (l.map nI) = putM z (va_up M.1 11 l, M.2) := sMk 11 (by omega) l
theorem X11s : zden L (d + 1) 55 [.ref 72] (putM z M) = some (nI (M.1 11).length, putM z M) := by
  rw [N55 rfl, gM11, List.length_map]
theorem X11g (i : Int32) : zden L (d + 1) 56 [.ref 72, .int i] (putM z M) = some (zget ((M.1 11).map nI) i, putM z M) := by
  rw [N56 rfl, gM11]
theorem X11w {i v : Nat} (hi : i < (M.1 11).length) (hl : (M.1 11).length ≤ 400) : zden L (d + 1) 58 [.ref 72, .int (nI i), .int (nI v)] (putM z M) = some (0, putM z (va_up M.1 11 ((M.1 11).set i v), M.2)) := by
  rw [N58 rfl, gM11, zset_map hi (by omega), sM11]
theorem X11b {i b : Nat} (hi : i < (M.1 11).length) (hl : (M.1 11).length ≤ 400) (hb : b < 31) : zden L (d + 1) 59 [.ref 72, .int (nI i), .int (nI b)] (putM z M) = some (0, putM z (va_up M.1 11 ((M.1 11).set i ((M.1 11).getD i 0 ||| 2 ^ b)), M.2)) := by
  rw [N59 rfl, gM11, zsb_map hi (by omega) hb, sM11]
theorem X11h {i b : Nat} (hi : i < 2 ^ 31) (hl : (M.1 11).length ≤ 400) (hb : b < 31) : zden L (d + 1) 60 [.ref 72, .int (nI i), .int (nI b)] (putM z M) = some (bI (((M.1 11).getD i 0).testBit b), putM z M) := by
  rw [N60 rfl, gM11, zhas_map hi (by omega) hb]
theorem X11a (v : Nat) (hl : (M.1 11).length < 6) : zden L (d + 2) 61 [.ref 72, .int (nI v)] (putM z M) = some (0, putM z (va_up M.1 11 (M.1 11 ++ [v]), M.2)) := by
  rw [N61 rfl, gM11, show zmo 72 = 6 from rfl, zadd_map hl, sM11]
theorem X11c : zden L (d + 1) 63 [.ref 72] (putM z M) = some (0, putM z (va_up M.1 11 [], M.2)) := by
  rw [N63 rfl, show ([] : List Int32) = ([] : List Nat).map nI from rfl, sM11]
theorem X11f {n v : Nat} (hn : n ≤ 6) : zden L (d + 3) 64 [.ref 72, .int (nI n), .int (nI v)] (putM z M) = some (0, putM z (va_up M.1 11 (List.replicate n v), M.2)) := by
  rw [N64 rfl, show zmo 72 = 6 from rfl, zfill hn (by omega), sM11]
theorem gM12 : (putM z M).1 74 = (M.1 12).map nI := gMk 12 (by omega)
theorem sM12 (l : List Nat) : zrs (putM z M) 74 (l.map nI) = putM z (va_up M.1 12 l, M.2) := sMk 12 (by omega) l
theorem X12s : zden L (d + 1) 55 [.ref 74] (putM z M) = some (nI (M.1 12).length, putM z M) := by
  rw [N55 rfl, gM12, List.length_map]
theorem X12g (i : Int32) : zden L (d + 1) 56 [.ref 74, .int i] (putM z M) = some (zget ((M.1 12).map nI) i, putM z M) := by
  rw [N56 rfl, gM12]
theorem X12w {i v : Nat} (hi : i < (M.1 12).length) (hl : (M.1 12).length ≤ 400) : zden L (d + 1) 58 [.ref 74, .int (nI i), .int (nI v)] (putM z M) = some (0, putM z (va_up M.1 12 ((M.1 12).set i v), M.2)) := by
  rw [N58 rfl, gM12, zset_map hi (by omega), sM12]
theorem X12b {i b : Nat} (hi : i < (M.1 12).length) (hl : (M.1 12).length ≤ 400) (hb : b < 31) : zden L (d + 1) 59 [.ref 74, .int (nI i), .int (nI b)] (putM z M) = some (0, putM z (va_up M.1 12 ((M.1 12).set i ((M.1 12).getD i 0 ||| 2 ^ b)), M.2)) := by
  rw [N59 rfl, gM12, zsb_map hi (by omega) hb, sM12]
theorem X12h {i b : Nat} (hi : i < 2 ^ 31) (hl : (M.1 12).length ≤ 400) (hb : b < 31) : zden L (d + 1) 60 [.ref 74, .int (nI i), .int (nI b)] (putM z M) = some (bI (((M.1 12).getD i 0).testBit b), putM z M) := by
  rw [N60 rfl, gM12, zhas_map hi (by omega) hb]
theorem X12a (v : Nat) (hl : (M.1 12).length < 400) : zden L (d + 2) 61 [.ref 74, .int (nI v)] (putM z M) = some (0, putM z (va_up M.1 12 (M.1 12 ++ [v]), M.2)) := by
  rw [N61 rfl, gM12, show zmo 74 = 400 from rfl, zadd_map hl, sM12]
theorem X12c : zden L (d + 1) 63 [.ref 74] (putM z M) = some (0, putM z (va_up M.1 12 [], M.2)) := by
  rw [N63 rfl, show ([] : List Int32) = ([] : List Nat).map nI from rfl, sM12]
theorem X12f {n v : Nat} (hn : n ≤ 400) : zden L (d + 3) 64 [.ref 74, .int (nI n), .int (nI v)] (putM z M) = some (0, putM z (va_up M.1 12 (List.replicate n v), M.2)) := by
  rw [N64 rfl, show zmo 74 = 400 from rfl, zfill hn (by omega), sM12]
theorem gM13 : (putM z M).1 76 = (M.1 13).map nI := gMk 13 (by omega)
theorem sM13 (l : List Nat) : zrs (putM z M) 76 (l.map nI) = putM z (va_up M.1 13 l, M.2) := sMk 13 (by omega) l
theorem X13s : zden L (d + 1) 55 [.ref 76] (putM z M) = some (nI (M.1 13).length, putM z M) := by
  rw [N55 rfl, gM13, List.length_map]
theorem X13g (i : Int32) : zden L (d + 1) 56 [.ref 76, .int i] (putM z M) = some (zget ((M.1 13).map nI) i, putM z M) := by
  rw [N56 rfl, gM13]
theorem X13w {i v : Nat} (hi : i < (M.1 13).length) (hl : (M.1 13).length ≤ 400) : zden L (d + 1) 58 [.ref 76, .int (nI i), .int (nI v)] (putM z M) = some (0, putM z (va_up M.1 13 ((M.1 13).set i v), M.2)) := by
  rw [N58 rfl, gM13, zset_map hi (by omega), sM13]
theorem X13b {i b : Nat} (hi : i < (M.1 13).length) (hl : (M.1 13).length ≤ 400) (hb : b < 31) : zden L (d + 1) 59 [.ref 76, .int (nI i), .int (nI b)] (putM z M) = some (0, putM z (va_up M.1 13 ((M.1 13).set i ((M.1 13).getD i 0 ||| 2 ^ b)), M.2)) := by
  rw [N59 rfl, gM13, zsb_map hi (by omega) hb, sM13]
theorem X13h {i b : Nat} (hi : i < 2 ^ 31) (hl : (M.1 13).length ≤ 400) (hb : b < 31) : zden L (d + 1) 60 [.ref 76, .int (nI i), .int (nI b)] (putM z M) = some (bI (((M.1 13).getD i 0).testBit b), putM z M) := by
  rw [N60 rfl, gM13, zhas_map hi (by omega) hb]
theorem X13a (v : Nat) (hl : (M.1 13).length < 400) : zden L (d + 2) 61 [.ref 76, .int (nI v)] (putM z M) = some (0, putM z (va_up M.1 13 (M.1 13 ++ [v]), M.2)) := by
  rw [N61 rfl, gM13, show zmo 76 = 400 from rfl, zadd_map hl, sM13]
theorem X13c : zden L (d + 1) 63 [.ref 76] (putM z M) = some (0, putM z (va_up M.1 13 [], M.2)) := by
  rw [N63 rfl, show ([] : List Int32) = ([] : List Nat).map nI from rfl, sM13]
theorem X13f {n v : Nat} (hn : n ≤ 400) : zden L (d + 3) 64 [.ref 76, .int (nI n), .int (nI v)] (putM z M) = some (0, putM z (va_up M.1 13 (List.replicate n v), M.2)) := by
  rw [N64 rfl, show zmo 76 = 400 from rfl, zfill hn (by omega), sM13]
theorem X16r : (O2 L).1 (putM z M) 4 1 16 = some (nI (M.2 16)) := by
  rw [J4_16]
  unfold putM
  simp only [and_self, if_true]
theorem X16p (x : Nat) : (O2 L).2.2.1 (putM z M) 4 1 16 (.int (nI x)) = some (putM z (M.1, va_up M.2 16 x)) := by rw [K4_16, fM]
end
/-- the text and the query that a match looks at -/
def RO (z : zS) (t q : Nat) (T Q : CT) : Prop := isT t ∧ isQ q ∧ z.2.2.2 4 0 = t ∧ z.2.2.2 4 1 = q ∧ (∀ k, k ≤ 9 → z.1 (t + (2 * k + 1)) = (T.1 k).map nI) ∧ (∀ k, k ≤ 9 → z.1 (q + (2 * k + 1)) = (Q.1 k).map nI)
section
variable {L d : Nat} {z : zS} {M T Q : CT} {t q : Nat}
theorem XP0 (h : RO z t q T Q) : (O2 L).2.1 (putM z M) 4 1 0 = some t := (J4_0 _).trans (congrArg some h.2.2.1)
theorem XP1 (h : RO z t q T Q) : (O2 L).2.1 (putM z M) 4 1 1 = some q := (J4_1 _).trans (congrArg some h.2.2.2.1)
theorem gT0M (h : RO z t q T Q) : (putM z M).1 (t + 1) = (T.1 0).map nI := by
  rw [gMo (by rcases h.1 with rfl | rfl <;> omega)]
  exact h.2.2.2.2.1 0 (by omega)
theorem XT0g (h : RO z t q T Q) (i : Int32) : zden L (d + 1) 56 [.ref (t + 1), .int i] (putM z M) = some (zget ((T.1 0).map nI) i, putM z M) := by
  rw [N56 (W6_0 h.1).1, gT0M h]
theorem XT0s (h : RO z t q T Q) : zden L (d + 1) 55 [.ref (t + 1)] (putM z M) = some (nI (T.1 0).length, putM z M) := by
  rw [N55 (W6_0 h.1).1, gT0M h, List.length_map]
theorem gT1M (h : RO z t q T Q) : (putM z M).1 (t + 3) = (T.1 1).map nI := by
  rw [gMo (by rcases h.1 with rfl | rfl <;> omega)]
  exact h.2.2.2.2.1 1 (by omega)
theorem XT1g (h : RO z t q T Q) (i : Int32) : zden L (d + 1) 56 [.ref (t + 3), .int i] (putM z M) = some (zget ((T.1 1).map nI) i, putM z M) := by
  rw [N56 (W6_1 h.1).1, gT1M h]
theorem XT1s (h : RO z t q T Q) : zden L (d + 1) 55 [.ref (t + 3)] (putM z M) = some (nI (T.1 1).length, putM z M) := by
  rw [N55 (W6_1 h.1).1, gT1M h, List.length_map]
theorem gT2M (h : RO z t q T Q) : (putM z M).1 (t + 5) = (T.1 2).map nI := by
  rw [gMo (by rcases h.1 with rfl | rfl <;> omega)]
  exact h.2.2.2.2.1 2 (by omega)
theorem XT2g (h : RO z t q T Q) (i : Int32) : zden L (d + 1) 56 [.ref (t + 5), .int i] (putM z M) = some (zget ((T.1 2).map nI) i, putM z M) := by
  rw [N56 (W6_2 h.1).1, gT2M h]
theorem XT2s (h : RO z t q T Q) : zden L (d + 1) 55 [.ref (t + 5)] (putM z M) = some (nI (T.1 2).length, putM z M) := by
  rw [N55 (W6_2 h.1).1, gT2M h, List.length_map]
theorem gT3M (h : RO z t q T Q) : (putM z M).1 (t + 7) = (T.1 3).map nI := by
  rw [gMo (by rcases h.1 with rfl | rfl <;> omega)]
  exact h.2.2.2.2.1 3 (by omega)
theorem XT3g (h : RO z t q T Q) (i : Int32) : zden L (d + 1) 56 [.ref (t + 7), .int i] (putM z M) = some (zget ((T.1 3).map nI) i, putM z M) := by
  rw [N56 (W6_3 h.1).1, gT3M h]
theorem XT3s (h : RO z t q T Q) : zden L (d + 1) 55 [.ref (t + 7)] (putM z M) = some (nI (T.1 3).length, putM z M) := by
  rw [N55 (W6_3 h.1).1, gT3M h, List.length_map]
theorem gT4M (h : RO z t q T Q) : (putM z M).1 (t + 9) = (T.1 4).map nI := by
  rw [gMo (by rcases h.1 with rfl | rfl <;> omega)]
  exact h.2.2.2.2.1 4 (by omega)
theorem XT4g (h : RO z t q T Q) (i : Int32) : zden L (d + 1) 56 [.ref (t + 9), .int i] (putM z M) = some (zget ((T.1 4).map nI) i, putM z M) := by
  rw [N56 (W6_4 h.1).1, gT4M h]
theorem XT4s (h : RO z t q T Q) : zden L (d + 1) 55 [.ref (t + 9)] (putM z M) = some (nI (T.1 4).length, putM z M) := by
  rw [N55 (W6_4 h.1).1, gT4M h, List.length_map]
theorem gT5M (h : RO z t q T Q) : (putM z M).1 (t + 11) = (T.1 5).map nI := by
  rw [gMo (by rcases h.1 with rfl | rfl <;> omega)]
  exact h.2.2.2.2.1 5 (by omega)
theorem XT5g (h : RO z t q T Q) (i : Int32) : zden L (d + 1) 56 [.ref (t + 11), .int i] (putM z M) = some (zget ((T.1 5).map nI) i, putM z M) := by
  rw [N56 (W6_5 h.1).1, gT5M h]
theorem XT5s (h : RO z t q T Q) : zden L (d + 1) 55 [.ref (t + 11)] (putM z M) = some (nI (T.1 5).length, putM z M) := by
  rw [N55 (W6_5 h.1).1, gT5M h, List.length_map]
theorem gT6M (h : RO z t q T Q) : (putM z M).1 (t + 13) = (T.1 6).map nI := by
  rw [gMo (by rcases h.1 with rfl | rfl <;> omega)]
  exact h.2.2.2.2.1 6 (by omega)
theorem XT6g (h : RO z t q T Q) (i : Int32) : zden L (d + 1) 56 [.ref (t + 13), .int i] (putM z M) = some (zget ((T.1 6).map nI) i, putM z M) := by
  rw [N56 (W6_6 h.1).1, gT6M h]
theorem XT6s (h : RO z t q T Q) : zden L (d + 1) 55 [.ref (t + 13)] (putM z M) = some (nI (T.1 6).length, putM z M) := by
  rw [N55 (W6_6 h.1).1, gT6M h, List.length_map]
theorem gT7M (h : RO z t q T Q) : (putM z M).1 (t + 15) = (T.1 7).map nI := by
  rw [gMo (by rcases h.1 with rfl | rfl <;> omega)]
  exact h.2.2.2.2.1 7 (by omega)
theorem XT7g (h : RO z t q T Q) (i : Int32) : zden L (d + 1) 56 [.ref (t + 15), .int i] (putM z M) = some (zget ((T.1 7).map nI) i, putM z M) := by
  rw [N56 (W6_7 h.1).1, gT7M h]
theorem XT7s (h : RO z t q T Q) : zden L (d + 1) 55 [.ref (t + 15)] (putM z M) = some (nI (T.1 7).length, putM z M) := by
  rw [N55 (W6_7 h.1).1, gT7M h, List.length_map]
theorem gT8M (h : RO z t q T Q) : (putM z M).1 (t + 17) = (T.1 8).map nI := by
  rw [gMo (by rcases h.1 with rfl | rfl <;> omega)]
  exact h.2.2.2.2.1 8 (by omega)
theorem XT8g (h : RO z t q T Q) (i : Int32) : zden L (d + 1) 56 [.ref (t + 17), .int i] (putM z M) = some (zget ((T.1 8).map nI) i, putM z M) := by
  rw [N56 (W6_8 h.1).1, gT8M h]
theorem XT8s (h : RO z t q T Q) : zden L (d + 1) 55 [.ref (t + 17)] (putM z M) = some (nI (T.1 8).length, putM z M) := by
  rw [N55 (W6_8 h.1).1, gT8M h, List.length_map]
theorem gT9M (h : RO z t q T Q) : (putM z M).1 (t + 19) = (T.1 9).map nI := by
  rw [gMo (by rcases h.1 with rfl | rfl <;> omega)]
  exact h.2.2.2.2.1 9 (by omega)
theorem XT9g (h : RO z t q T Q) (i : Int32) : zden L (d + 1) 56 [.ref (t + 19), .int i] (putM z M) = some (zget ((T.1 9).map nI) i, putM z M) := by
  rw [N56 (W6_9 h.1).1, gT9M h]
theorem XT9s (h : RO z t q T Q) : zden L (d + 1) 55 [.ref (t + 19)] (putM z M) = some (nI (T.1 9).length, putM z M) := by
  rw [N55 (W6_9 h.1).1, gT9M h, List.length_map]
theorem gQ0M (h : RO z t q T Q) : (putM z M).1 (q + 1) = (Q.1 0).map nI := by
  rw [gMo (by rcases h.2.1 with rfl | rfl <;> omega)]
  exact h.2.2.2.2.2 0 (by omega)
theorem XQ0g (h : RO z t q T Q) (i : Int32) : zden L (d + 1) 56 [.ref (q + 1), .int i] (putM z M) = some (zget ((Q.1 0).map nI) i, putM z M) := by
  rw [N56 (W3_0 h.2.1).1, gQ0M h]
theorem XQ0s (h : RO z t q T Q) : zden L (d + 1) 55 [.ref (q + 1)] (putM z M) = some (nI (Q.1 0).length, putM z M) := by
  rw [N55 (W3_0 h.2.1).1, gQ0M h, List.length_map]
theorem gQ1M (h : RO z t q T Q) : (putM z M).1 (q + 3) = (Q.1 1).map nI := by
  rw [gMo (by rcases h.2.1 with rfl | rfl <;> omega)]
  exact h.2.2.2.2.2 1 (by omega)
theorem XQ1g (h : RO z t q T Q) (i : Int32) : zden L (d + 1) 56 [.ref (q + 3), .int i] (putM z M) = some (zget ((Q.1 1).map nI) i, putM z M) := by
  rw [N56 (W3_1 h.2.1).1, gQ1M h]
theorem XQ1s (h : RO z t q T Q) : zden L (d + 1) 55 [.ref (q + 3)] (putM z M) = some (nI (Q.1 1).length, putM z M) := by
  rw [N55 (W3_1 h.2.1).1, gQ1M h, List.length_map]
theorem gQ2M (h : RO z t q T Q) : (putM z M).1 (q + 5) = (Q.1 2).map nI := by
  rw [gMo (by rcases h.2.1 with rfl | rfl <;> omega)]
  exact h.2.2.2.2.2 2 (by omega)
theorem XQ2g (h : RO z t q T Q) (i : Int32) : zden L (d + 1) 56 [.ref (q + 5), .int i] (putM z M) = some (zget ((Q.1 2).map nI) i, putM z M) := by
  rw [N56 (W3_2 h.2.1).1, gQ2M h]
theorem XQ2s (h : RO z t q T Q) : zden L (d + 1) 55 [.ref (q + 5)] (putM z M) = some (nI (Q.1 2).length, putM z M) := by
  rw [N55 (W3_2 h.2.1).1, gQ2M h, List.length_map]
theorem gQ3M (h : RO z t q T Q) : (putM z M).1 (q + 7) = (Q.1 3).map nI := by
  rw [gMo (by rcases h.2.1 with rfl | rfl <;> omega)]
  exact h.2.2.2.2.2 3 (by omega)
theorem XQ3g (h : RO z t q T Q) (i : Int32) : zden L (d + 1) 56 [.ref (q + 7), .int i] (putM z M) = some (zget ((Q.1 3).map nI) i, putM z M) := by
  rw [N56 (W3_3 h.2.1).1, gQ3M h]
theorem XQ3s (h : RO z t q T Q) : zden L (d + 1) 55 [.ref (q + 7)] (putM z M) = some (nI (Q.1 3).length, putM z M) := by
  rw [N55 (W3_3 h.2.1).1, gQ3M h, List.length_map]
theorem gQ4M (h : RO z t q T Q) : (putM z M).1 (q + 9) = (Q.1 4).map nI := by
  rw [gMo (by rcases h.2.1 with rfl | rfl <;> omega)]
  exact h.2.2.2.2.2 4 (by omega)
theorem XQ4g (h : RO z t q T Q) (i : Int32) : zden L (d + 1) 56 [.ref (q + 9), .int i] (putM z M) = some (zget ((Q.1 4).map nI) i, putM z M) := by
  rw [N56 (W3_4 h.2.1).1, gQ4M h]
theorem XQ4s (h : RO z t q T Q) : zden L (d + 1) 55 [.ref (q + 9)] (putM z M) = some (nI (Q.1 4).length, putM z M) := by
  rw [N55 (W3_4 h.2.1).1, gQ4M h, List.length_map]
theorem gQ5M (h : RO z t q T Q) : (putM z M).1 (q + 11) = (Q.1 5).map nI := by
  rw [gMo (by rcases h.2.1 with rfl | rfl <;> omega)]
  exact h.2.2.2.2.2 5 (by omega)
theorem XQ5g (h : RO z t q T Q) (i : Int32) : zden L (d + 1) 56 [.ref (q + 11), .int i] (putM z M) = some (zget ((Q.1 5).map nI) i, putM z M) := by
  rw [N56 (W3_5 h.2.1).1, gQ5M h]
theorem XQ5s (h : RO z t q T Q) : zden L (d + 1) 55 [.ref (q + 11)] (putM z M) = some (nI (Q.1 5).length, putM z M) := by
  rw [N55 (W3_5 h.2.1).1, gQ5M h, List.length_map]
theorem gQ6M (h : RO z t q T Q) : (putM z M).1 (q + 13) = (Q.1 6).map nI := by
  rw [gMo (by rcases h.2.1 with rfl | rfl <;> omega)]
  exact h.2.2.2.2.2 6 (by omega)
theorem XQ6g (h : RO z t q T Q) (i : Int32) : zden L (d + 1) 56 [.ref (q + 13), .int i] (putM z M) = some (zget ((Q.1 6).map nI) i, putM z M) := by
  rw [N56 (W3_6 h.2.1).1, gQ6M h]
theorem XQ6s (h : RO z t q T Q) : zden L (d + 1) 55 [.ref (q + 13)] (putM z M) = some (nI (Q.1 6).length, putM z M) := by
  rw [N55 (W3_6 h.2.1).1, gQ6M h, List.length_map]
theorem gQ7M (h : RO z t q T Q) : (putM z M).1 (q + 15) = (Q.1 7).map nI := by
  rw [gMo (by rcases h.2.1 with rfl | rfl <;> omega)]
  exact h.2.2.2.2.2 7 (by omega)
theorem XQ7g (h : RO z t q T Q) (i : Int32) : zden L (d + 1) 56 [.ref (q + 15), .int i] (putM z M) = some (zget ((Q.1 7).map nI) i, putM z M) := by
  rw [N56 (W3_7 h.2.1).1, gQ7M h]
theorem XQ7s (h : RO z t q T Q) : zden L (d + 1) 55 [.ref (q + 15)] (putM z M) = some (nI (Q.1 7).length, putM z M) := by
  rw [N55 (W3_7 h.2.1).1, gQ7M h, List.length_map]
theorem gQ8M (h : RO z t q T Q) : (putM z M).1 (q + 17) = (Q.1 8).map nI := by
  rw [gMo (by rcases h.2.1 with rfl | rfl <;> omega)]
  exact h.2.2.2.2.2 8 (by omega)
theorem XQ8g (h : RO z t q T Q) (i : Int32) : zden L (d + 1) 56 [.ref (q + 17), .int i] (putM z M) = some (zget ((Q.1 8).map nI) i, putM z M) := by
  rw [N56 (W3_8 h.2.1).1, gQ8M h]
theorem XQ8s (h : RO z t q T Q) : zden L (d + 1) 55 [.ref (q + 17)] (putM z M) = some (nI (Q.1 8).length, putM z M) := by
  rw [N55 (W3_8 h.2.1).1, gQ8M h, List.length_map]
theorem gQ9M (h : RO z t q T Q) : (putM z M).1 (q + 19) = (Q.1 9).map nI := by
  rw [gMo (by rcases h.2.1 with rfl | rfl <;> omega)]
  exact h.2.2.2.2.2 9 (by omega)
theorem XQ9g (h : RO z t q T Q) (i : Int32) : zden L (d + 1) 56 [.ref (q + 19), .int i] (putM z M) = some (zget ((Q.1 9).map nI) i, putM z M) := by
  rw [N56 (W3_9 h.2.1).1, gQ9M h]
theorem XQ9s (h : RO z t q T Q) : zden L (d + 1) 55 [.ref (q + 19)] (putM z M) = some (nI (Q.1 9).length, putM z M) := by
  rw [N55 (W3_9 h.2.1).1, gQ9M h, List.length_map]
theorem x74 (h : RO z t q T Q) : zden L (d + 2) 74 [.ref t] (putM z M) = some (nI (T.1 1).length, putM z M) := by
  rw [N74 _ (obT h.1), B74_0, R6_1 h.1, Option.bind_some, XT1s h, Option.bind_some]
theorem x75 (h : RO z t q T Q) : zden L (d + 2) 75 [.ref t] (putM z M) = some (nI (T.1 8).length, putM z M) := by
  rw [N75 _ (obT h.1), B75_0, R6_8 h.1, Option.bind_some, XT8s h, Option.bind_some]
theorem x38 (h : RO z t q T Q) : zden L (d + 2) 38 [.ref q] (putM z M) = some (nI (Q.1 6).length, putM z M) := by
  rw [N38 _ (obQ h.2.1), B38_0, R3_6 h.2.1, Option.bind_some, XQ6s h, Option.bind_some]
end
