/-! EVALUATION: judge, in the class -/
def TOK (T : CT) : Prop := TL T ∧ TZ T ∧ (T.1 3).length = (T.1 1).length ∧ (∀ v, v < (T.1 1).length → plT T v ≤ 10000) ∧ (∀ w, w < (T.1 1).length → TW T w)
def QOK (Q : CT) (S : Option Sem) : Prop := QL Q ∧ (∀ l, l < (Q.1 6).length → QF Q l) ∧ (Q.1 6).length ≤ 12 ∧ (Q.1 7).length ≤ 400 ∧ (S = none → (Q.1 7).length = 0 ∧ (Q.1 6).length = 0) ∧ (∀ s, S = some s → WE (Q.1 7) (Q.1 8) (Q.1 9) (Q.1 6).length s)
def tvS (S : Option Sem) (v : Nat → Bool) : Bool := match S with
  | none => false
  | some s => s.1 v
def lvS (S : Option Sem) (v : Nat → Bool) (l : Nat) : Bool := match S with
  | none => false
  | some s => s.1 v && s.2 v l
def vC (T Q : CT) (lk : Nat) : Nat → Bool := fun l => decide (0 < cntW T Q l lk lk)
/-- what comes of a judgement -/
def JR (T Q : CT) (S : Option Sem) (lk : Nat) (M : CT) : Prop :=
  M.2 16 = lk ∧ M.1 0 = (List.range (Q.1 6).length).map (fun l => cntW T Q l lk lk) ∧ M.1 1 = (List.range (Q.1 6).length).map (fun l => bN (lvS S (vC T Q lk) l)) ∧ WB T Q lk (Q.1 6).length 0 (M.1 7) (M.1 8) ∧ M.1 2 = (List.range (T.1 1).length).map (fun v => bN (mkA T Q (lvS S (vC T Q lk)) lk (Q.1 6).length v)) ∧ M.1 9 = (List.range lk).map (fun v => bN (jdA T Q (lvS S (vC T Q lk)) lk (Q.1 6).length v)) ∧ M.1 3 = pfA (mkA T Q (lvS S (vC T Q lk)) lk (Q.1 6).length) (jdA T Q (lvS S (vC T Q lk)) lk (Q.1 6).length) lk ∧ M.1 4 = plA (mkA T Q (lvS S (vC T Q lk)) lk (Q.1 6).length) (jdA T Q (lvS S (vC T Q lk)) lk (Q.1 6).length) lk ∧ M.1 5 = (List.range (T.1 8).length).map (scoZ T Q (lvS S (vC T Q lk)) lk) ∧ ∃ tr : Nat → Bool, M.1 12 = (List.range (Q.1 7).length).map (fun k => bN (tr k)) ∧ ((Q.1 7).length ≠ 0 → tr 0 = tvS S (vC T Q lk))
section
variable {L d : Nat} {z : zS} {T Q : CT} {t q : Nat} {S : Option Sem}
/-- truth and light -/
theorem x2122 {M : CT} {lk : Nat} (h : RO z t q T Q) (qo : QOK Q S) (h300 : lk ≤ 300) (h0 : M.1 0 = (List.range (Q.1 6).length).map (fun l => cntW T Q l lk lk)) :
    ∃ M', MFr [1, 12, 13] M M' ∧ ((zden L (d + 6) 21 [.ref 4] (putM z M)).bind fun w => zden L (d + 6) 22 [.ref 4] w.2) = some (0, putM z M') ∧ M'.1 1 = (List.range (Q.1 6).length).map (fun l => bN (lvS S (vC T Q lk) l)) ∧ ∃ tr : Nat → Bool, M'.1 12 = (List.range (Q.1 7).length).map (fun k => bN (tr k)) ∧ ((Q.1 7).length ≠ 0 → tr 0 = tvS S (vC T Q lk)) := by
  obtain ⟨ql, qf, n12, n400, qn, qs⟩ := qo
  cases S with
  | none =>
    obtain ⟨n7, n6⟩ := qn rfl
    have e21 : zden L (d + 6) 21 [.ref 4] (putM z M) = some (0, putM z (va_up M.1 12 [], M.2)) := by
      rw [N21 _ ob4, B21_0, XP1 h, Option.bind_some, R3_7 h.2.1, Option.bind_some, XQ7s h, Option.bind_some, n7, J4_14, Option.bind_some, X12f (by omega), Option.bind_some, B21_22, iL (by omega) (by omega), if_pos (Nat.le_refl _), B21_101, B21_105, if_pos (show nI 0 - nI 1 ≤ nI 0 from by decide), B21_217]
      rfl
    refine ⟨(va_up (va_up (va_up M.1 12 []) 13 []) 1 [], M.2), ((MFr.r (k := 12) (by simp)).trans (MFr.r (M := (va_up M.1 12 [], M.2)) (k := 13) (by simp))).trans (MFr.r (M := (va_up (va_up M.1 12 []) 13 [], M.2)) (k := 1) (by simp)), ?_, by rw [n6]; rfl, fun _ => false, by rw [n7]; rfl, fun q => absurd n7 q⟩
    have e6 : zden L (d + 5) 6 [.ref 4] (putM z (va_up (va_up M.1 12 []) 13 [], M.2)) = some (nI 0, putM z (va_up (va_up M.1 12 []) 13 [], M.2)) := by
      have := x6 (L := L) (d := d + 3) (z := z) (M := (va_up (va_up M.1 12 []) 13 [], M.2)) (tr := fun _ => false) (n := 0) (by omega) rfl
      exact this
    have e58 : zden L (d + 5) 58 [.ref 76, .int (nI 0), .int (nI 0)] (putM z (va_up (va_up M.1 12 []) 13 [], M.2)) = some (0, putM z (va_up (va_up M.1 12 []) 13 [], M.2)) := by
      rw [N58 rfl, gM13]
      show some (0, zrs _ 76 (zset (([] : List Nat).map nI) (nI 0) (nI 0))) = _
      rw [zset_any (by omega) (by decide), sM13]
      show some (0, putM z (va_up (va_up (va_up M.1 12 []) 13 []) 13 [], M.2)) = _
      rw [vv]
    rw [e21, Option.bind_some, N22 _ ob4, B22_0, XP1 h, Option.bind_some, R3_7 h.2.1, Option.bind_some, XQ7s h, Option.bind_some, n7, J4_15, Option.bind_some, X13f (by omega), Option.bind_some, J4_15, Option.bind_some]
    show ((zden L (d + 5) 6 [.ref 4] (putM z (va_up (va_up M.1 12 []) 13 [], M.2))).bind _) = _
    rw [e6, Option.bind_some]
    show ((zden L (d + 5) 58 [.ref 76, .int (nI 0), .int (nI 0)] (putM z (va_up (va_up M.1 12 []) 13 [], M.2))).bind _) = _
    rw [e58, Option.bind_some, J4_3, Option.bind_some, XP1 h, Option.bind_some, x38 h, Option.bind_some, n6, X1f (by omega), Option.bind_some, B22_49, iL (by omega) (by omega), if_pos (by omega), B22_160]
    rfl
  | some s =>
    obtain ⟨pf, k0, σ, hσ, s0⟩ := qs s rfl
    have hpos : 0 < (Q.1 7).length := by
      obtain ⟨q, _⟩ := List.getElem?_eq_some_iff.mp k0
      exact q
    have e21 := x21 (L := L) (d := d + 2) (z := z) (M := M) (σ := σ) h pf n400 hpos hσ n12 (fun l => cntW T Q l lk lk) h0 (fun l => by have := cntW_le T Q l lk lk; omega)
    obtain ⟨X, e22⟩ := x22 (L := L) (d := d + 2) (z := z) (σ := σ) (v := vC T Q lk) (M := (va_up M.1 12 ((List.range (Q.1 7).length).map (fun k => bN ((σ k).1 (vC T Q lk)))), M.2)) h pf n400 hpos k0 hσ n12 rfl
    refine ⟨_, ?_, by rw [e21, Option.bind_some]; exact e22, ?_, fun k => (σ k).1 (vC T Q lk), rfl, fun _ => ?_⟩
    · exact ((MFr.r (k := 12) (by simp)).trans (MFr.r (M := (va_up M.1 12 ((List.range (Q.1 7).length).map (fun k => bN ((σ k).1 (vC T Q lk)))), M.2)) (k := 13) (by simp))).trans (MFr.r (M := (va_up (va_up M.1 12 ((List.range (Q.1 7).length).map (fun k => bN ((σ k).1 (vC T Q lk))))) 13 X, M.2)) (k := 1) (by simp))
    · show (List.range (Q.1 6).length).map (fun l => bN ((σ 0).1 (vC T Q lk) && (σ 0).2 (vC T Q lk) l)) = _
      rw [s0]; rfl
    · show (σ 0).1 (vC T Q lk) = s.1 (vC T Q lk)
      rw [s0]
theorem x10 {M : CT} {n : Nat} (h : RO z t q T Q) (to : TOK T) (qo : QOK Q S) (hn : n ≤ 300) :
    ∃ M', zden L (d + 7) 10 [.ref 4, .int (nI n)] (putM z M) = some (0, putM z M') ∧ JR T Q S (min n (T.1 1).length) M' := by
  obtain ⟨tl, tz, t3, tpl, tw⟩ := to
  have W300 := tz.2.1
  obtain ⟨ql, qf, n12, n400, qn, qs⟩ := qo
  generalize hlk : min n (T.1 1).length = lk
  have lW : lk ≤ (T.1 1).length := by omega
  have l300 : lk ≤ 300 := by omega
  have em : (if nI (T.1 1).length < nI n then nI (T.1 1).length else nI n) = nI lk := by
    rw [iT (by omega) (by omega)]
    split
    · rw [show lk = (T.1 1).length by omega]
    · rw [show lk = n by omega]
  obtain ⟨M1, f1, e1, a0, aB⟩ := x11 (L := L) (d := d) (z := z) (lk := lk) (M := (M.1, va_up M.2 16 lk)) h tl ql qf n12 rfl l300 ⟨by omega, by omega, fun v hv => tpl v (by omega)⟩ (fun w hw => tw w (by omega))
  obtain ⟨M2, f2, e2, b1, tr, b2, b3⟩ := x2122 (L := L) (d := d) (z := z) (M := M1) h ⟨ql, qf, n12, n400, qn, qs⟩ l300 a0
  have lk1 : M1.2 16 = lk := by rw [f1.1]; rfl
  have lk2 : M2.2 16 = lk := by rw [f2.1]; exact lk1
  have aB2 : WB T Q lk (Q.1 6).length 0 (M2.1 7) (M2.1 8) := by rw [f2.2 7 (by simp), f2.2 8 (by simp)]; exact aB
  have a02 : M2.1 0 = (List.range (Q.1 6).length).map (fun l => cntW T Q l lk lk) := by rw [f2.2 0 (by simp)]; exact a0
  have e3 := x23 (L := L) (d := d + 2) (z := z) (M := M2) (li := lvS S (vC T Q lk)) h qf n12 lk2 lW W300 aB2 b1
  have e4 := x25 (L := L) (d := d + 3) (z := z) (M := (va_up (va_up M2.1 2 ((List.range (T.1 1).length).map (fun v => bN (mkA T Q (lvS S (vC T Q lk)) lk (Q.1 6).length v)))) 9 ((List.range lk).map (fun v => bN (jdA T Q (lvS S (vC T Q lk)) lk (Q.1 6).length v))), M2.2)) (mk := mkA T Q (lvS S (vC T Q lk)) lk (Q.1 6).length) (jd := jdA T Q (lvS S (vC T Q lk)) lk (Q.1 6).length) lk2 l300 lW W300 rfl rfl
  have e5 := x26 (L := L) (d := d + 1) (z := z) (lk := lk) (M := (va_up (va_up (va_up (va_up M2.1 2 ((List.range (T.1 1).length).map (fun v => bN (mkA T Q (lvS S (vC T Q lk)) lk (Q.1 6).length v)))) 9 ((List.range lk).map (fun v => bN (jdA T Q (lvS S (vC T Q lk)) lk (Q.1 6).length v)))) 3 (pfA (mkA T Q (lvS S (vC T Q lk)) lk (Q.1 6).length) (jdA T Q (lvS S (vC T Q lk)) lk (Q.1 6).length) lk)) 4 (plA (mkA T Q (lvS S (vC T Q lk)) lk (Q.1 6).length) (jdA T Q (lvS S (vC T Q lk)) lk (Q.1 6).length) lk), M2.2)) (li := lvS S (vC T Q lk)) h tz n12 l300 aB2 a02 b1
  cases h21 : zden L (d + 6) 21 [.ref 4] (putM z M1) with
  | none => rw [h21] at e2; cases e2
  | some w5 =>
    rw [h21, Option.bind_some] at e2
    refine ⟨(va_up (va_up (va_up (va_up (va_up M2.1 2 ((List.range (T.1 1).length).map (fun v => bN (mkA T Q (lvS S (vC T Q lk)) lk (Q.1 6).length v)))) 9 ((List.range lk).map (fun v => bN (jdA T Q (lvS S (vC T Q lk)) lk (Q.1 6).length v)))) 3 (pfA (mkA T Q (lvS S (vC T Q lk)) lk (Q.1 6).length) (jdA T Q (lvS S (vC T Q lk)) lk (Q.1 6).length) lk)) 4 (plA (mkA T Q (lvS S (vC T Q lk)) lk (Q.1 6).length) (jdA T Q (lvS S (vC T Q lk)) lk (Q.1 6).length) lk)) 5 ((List.range (T.1 8).length).map (scoZ T Q (lvS S (vC T Q lk)) lk)), M2.2), ?_, lk2, a02, b1, aB2, rfl, rfl, rfl, rfl, rfl, tr, b2, b3⟩
    rw [N10 _ _ ob4, B10_0, XP0 h, Option.bind_some, x74 h, Option.bind_some]
    show ((O2 L).2.2.1 _ 4 1 16 (.int (if nI (T.1 1).length < nI n then nI (T.1 1).length else nI n))).bind _ = _
    rw [em, X16p, Option.bind_some, e1, Option.bind_some, h21, Option.bind_some, e2, Option.bind_some, e3, Option.bind_some, e4, Option.bind_some]
    exact (congrArg (fun o : Option (Int32 × zS) => o.bind (fun w => some ((0 : Int32), w.2))) e5)
end
