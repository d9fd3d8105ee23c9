/-! GETTERS: word, letter, matches, leaf, passage, printed -/
theorem neI {w : Int32} (h : w < nI 0) {j : Nat} (hj : j < 2 ^ 31) : ¬ w = nI j := fun e => nI_pos hj (e ▸ h)
def aWord (T Q : CT) (S : Option Sem) (lk : Nat) (x w : Int32) : Int32 := if w = nI 0 then zget ((T.1 1).map nI) x else if w = nI 1 then zget ((T.1 2).map nI) x else if w = nI 2 then zget ((T.1 3).map nI) x else if w = nI 3 then zget ((T.1 4).map nI) x else if w = nI 4 then zget (((List.range (T.1 1).length).map (fun v => bN (mkA T Q (lvS S (vC T Q lk)) lk (Q.1 6).length v))).map nI) x else if w = nI 5 then zget ((T.1 7).map nI) x else -1
def aLet (T : CT) (x i : Int32) : Int32 := if i < nI 0 then -1 else if i < zget ((T.1 7).map nI) x then zget ((T.1 5).map nI) (zget ((T.1 6).map nI) x + i) else -1
def aLeaf (T Q : CT) (S : Option Sem) (lk : Nat) (x w : Int32) : Int32 := if x < nI 0 then -1 else if x < nI (Q.1 6).length then (if w = nI 0 then zget ((Q.1 5).map nI) x else if w = nI 1 then zget ((Q.1 6).map nI) x else if w = nI 2 then zget (((List.range (Q.1 6).length).map (fun l => bN (vC T Q lk l))).map nI) x else if w = nI 3 then zget (((List.range (Q.1 6).length).map (fun l => bN (lvS S (vC T Q lk) l))).map nI) x else if w = nI 4 then zget (((List.range (Q.1 6).length).map (fun l => cntW T Q l lk lk)).map nI) x else if w = nI 5 then zget (((List.range (Q.1 6).length).map (fun l => 1000 / (1 + cntW T Q l lk lk))).map nI) x else -1) else -1
def aPas (pf pl : List Nat) (x w : Int32) : Int32 := if w = nI 0 then zget (pf.map nI) x else if w = nI 1 then zget (pl.map nI) x else -1
theorem bI_bN (b : Bool) : nI (bN b) = bI b := by cases b <;> rfl
section
variable {L d : Nat} {z : zS} {T Q : CT} {t q lk : Nat} {S : Option Sem} {M : CT}
theorem c92 (h : RO z t q T Q) (jr : JR T Q S lk M) (qo : QOK Q S) : zden L (d + 4) 92 [.ref 1] (putM z M) = some (bI (tvS S (vC T Q lk)), putM z M) := by
  obtain ⟨j16, j0, j1, jB, j2, j9, j3, j4, j5, tr, j12, jt⟩ := jr
  have e6 := x6 (L := L) (d := d + 1) (z := z) (M := M) (tr := tr) (n := (Q.1 7).length) (by have := qo.2.2.2.1; omega) j12
  have e6 : zden L (d + 3) 6 [.ref 4] (putM z M) = some (bI (if (Q.1 7).length ≠ 0 then tr 0 else false), putM z M) := by
    first
    | exact e6
    | (rw [e6]; by_cases c : (Q.1 7).length = 0 <;> simp [c, bI_bN] <;> rfl)
  rw [N92 _ ob1, B92_0, J1_1, Option.bind_some, e6, Option.bind_some]
  by_cases c : (Q.1 7).length = 0
  · rw [if_neg (fun q => q c)]
    cases S with
    | none => rfl
    | some s =>
      obtain ⟨pf, k0, _⟩ := qo.2.2.2.2.2 s rfl
      obtain ⟨q, _⟩ := List.getElem?_eq_some_iff.mp k0
      omega
  · rw [if_pos c, jt c]
theorem c93 (h : RO z t q T Q) (jr : JR T Q S lk M) (x w : Int32) : zden L (d + 3) 93 [.ref 1, .int x, .int w] (putM z M) = some (aWord T Q S lk x w, putM z M) := by
  obtain ⟨j16, j0, j1, jB, j2, j9, j3, j4, j5, tr, j12, jt⟩ := jr
  unfold aWord
  rw [N93 _ _ _ ob1, B93_0]
  by_cases c0 : w = nI 0
  · rw [if_pos c0, if_pos c0, B93_40, J1_1, Option.bind_some, XP0 h, Option.bind_some, R6_1 h.1, Option.bind_some, XT1g h, Option.bind_some]
  rw [if_neg c0, if_neg c0]
  by_cases c1 : w = nI 1
  · rw [if_pos c1, if_pos c1, B93_55, J1_1, Option.bind_some, XP0 h, Option.bind_some, R6_2 h.1, Option.bind_some, XT2g h, Option.bind_some]
  rw [if_neg c1, if_neg c1]
  by_cases c2 : w = nI 2
  · rw [if_pos c2, if_pos c2, B93_70, J1_1, Option.bind_some, XP0 h, Option.bind_some, R6_3 h.1, Option.bind_some, XT3g h, Option.bind_some]
  rw [if_neg c2, if_neg c2]
  by_cases c3 : w = nI 3
  · rw [if_pos c3, if_pos c3, B93_85, J1_1, Option.bind_some, XP0 h, Option.bind_some, R6_4 h.1, Option.bind_some, XT4g h, Option.bind_some]
  rw [if_neg c3, if_neg c3]
  by_cases c4 : w = nI 4
  · rw [if_pos c4, if_pos c4, B93_100, J1_1, Option.bind_some, J4_4, Option.bind_some, X2g, Option.bind_some, j2]
  rw [if_neg c4, if_neg c4]
  by_cases c5 : w = nI 5
  · rw [if_pos c5, if_pos c5, B93_112, J1_1, Option.bind_some, XP0 h, Option.bind_some, R6_7 h.1, Option.bind_some, XT7g h, Option.bind_some]
  rw [if_neg c5, if_neg c5, B93_127]
theorem c94 (h : RO z t q T Q) (x i : Int32) : zden L (d + 3) 94 [.ref 1, .int x, .int i] (putM z M) = some (aLet T x i, putM z M) := by
  unfold aLet
  rw [N94 _ _ _ ob1, B94_0]
  by_cases c0 : i < nI 0
  · rw [if_pos c0, if_pos c0, B94_22]
  rw [if_neg c0, if_neg c0, B94_4, J1_1, Option.bind_some, XP0 h, Option.bind_some, R6_7 h.1, Option.bind_some, XT7g h, Option.bind_some]
  by_cases c1 : i < zget ((T.1 7).map nI) x
  · rw [if_pos c1, if_pos c1, B94_24, J1_1, Option.bind_some, XP0 h, Option.bind_some, R6_5 h.1, Option.bind_some, Option.bind_some, XP0 h, Option.bind_some, R6_6 h.1, Option.bind_some, XT6g h, Option.bind_some, XT5g h, Option.bind_some]
  rw [if_neg c1, if_neg c1, B94_22]
theorem c96 (h : RO z t q T Q) (jr : JR T Q S lk M) (h300 : lk ≤ 300) (n12 : (Q.1 6).length ≤ 12) (x w : Int32) : zden L (d + 4) 96 [.ref 1, .int x, .int w] (putM z M) = some (aLeaf T Q S lk x w, putM z M) := by
  obtain ⟨j16, j0, j1, jB, j2, j9, j3, j4, j5, tr, j12, jt⟩ := jr
  unfold aLeaf
  rw [N96 _ _ _ ob1, B96_0]
  by_cases n0 : x < nI 0
  · rw [if_pos n0, if_pos n0, B96_18]
  rw [if_neg n0, if_neg n0, B96_4, J1_1, Option.bind_some, XP1 h, Option.bind_some, x38 h, Option.bind_some]
  by_cases n1 : x < nI (Q.1 6).length
  · rw [if_pos n1, if_pos n1, B96_20]
    rcases i_cases x with q | ⟨k, hk, rfl⟩
    · exact absurd q n0
    have kl : k < (Q.1 6).length := (nI_ltI hk (by omega)).mp n1
    have lr : ∀ g : Nat → Nat, zget (((List.range (Q.1 6).length).map g).map nI) (nI k) = nI (g k) := fun g => by
      rw [zget_map (by rw [List.length_map, List.length_range]; exact kl) (by rw [List.length_map, List.length_range]; omega), map_at kl]
    have cw := cntW_le T Q k lk lk
    by_cases c0 : w = nI 0
    · rw [if_pos c0, if_pos c0, B96_60, J1_1, Option.bind_some, XP1 h, Option.bind_some, R3_5 h.2.1, Option.bind_some, XQ5g h, Option.bind_some]
    rw [if_neg c0, if_neg c0]
    by_cases c1 : w = nI 1
    · rw [if_pos c1, if_pos c1, B96_75, J1_1, Option.bind_some, XP1 h, Option.bind_some, R3_6 h.2.1, Option.bind_some, XQ6g h, Option.bind_some]
    rw [if_neg c1, if_neg c1]
    by_cases c2 : w = nI 2
    · rw [if_pos c2, if_pos c2, B96_90, J1_1, Option.bind_some, J4_2, Option.bind_some, X0g, Option.bind_some, j0, lr, lr, iL (by omega) (by omega)]
      by_cases cc : cntW T Q k lk lk ≤ 0
      · rw [if_pos cc, B96_108, B96_109]
        have : vC T Q lk k = false := by unfold vC; simp; omega
        rw [this]; rfl
      · rw [if_neg cc, B96_104, B96_109]
        have : vC T Q lk k = true := by unfold vC; simp; omega
        rw [this]; rfl
    rw [if_neg c2, if_neg c2]
    by_cases c3 : w = nI 3
    · rw [if_pos c3, if_pos c3, B96_110, J1_1, Option.bind_some, J4_3, Option.bind_some, X1g, Option.bind_some, j1]
    rw [if_neg c3, if_neg c3]
    by_cases c4 : w = nI 4
    · rw [if_pos c4, if_pos c4, B96_122, J1_1, Option.bind_some, J4_2, Option.bind_some, X0g, Option.bind_some, j0]
    rw [if_neg c4, if_neg c4]
    by_cases c5 : w = nI 5
    · rw [if_pos c5, if_pos c5, B96_134, J1_1, Option.bind_some, x7 (n := (Q.1 6).length) (C := fun l => cntW T Q l lk lk) j0 kl n12 (by omega), Option.bind_some, lr]
    rw [if_neg c5, if_neg c5, B96_143]
  rw [if_neg n1, if_neg n1, B96_18]
end
section
variable {L d : Nat} {Z : zS} {pf pl ot : List Nat}
theorem c99 (h1 : Z.1 79 = pf.map nI) (h2 : Z.1 81 = pl.map nI) (x w : Int32) : zden L (d + 3) 99 [.ref 1, .int x, .int w] Z = some (aPas pf pl x w, Z) := by
  unfold aPas
  rw [N99 _ _ _ ob1, B99_0]
  by_cases c0 : w = nI 0
  · rw [if_pos c0, if_pos c0, B99_28, J1_2, Option.bind_some, J78_0, Option.bind_some, N56 rfl, Option.bind_some, h1]
  rw [if_neg c0, if_neg c0]
  by_cases c1 : w = nI 1
  · rw [if_pos c1, if_pos c1, B99_40, J1_2, Option.bind_some, J78_1, Option.bind_some, N56 rfl, Option.bind_some, h2]
  rw [if_neg c1, if_neg c1, B99_52]
theorem c101 (h1 : Z.1 86 = ot.map nI) (x : Int32) : zden L (d + 3) 101 [.ref 1, .int x] Z = some (zget (ot.map nI) x, Z) := by
  rw [N101 _ _ ob1, B101_0, J1_3, Option.bind_some, J85_0, Option.bind_some, N56 rfl, Option.bind_some, h1]
end
