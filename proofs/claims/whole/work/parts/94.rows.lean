/-! GETTERS: what the rows of a read text hold -/
theorem i_cases (x : Int32) : x < nI 0 ∨ ∃ k, k < 2 ^ 31 ∧ x = nI k := by
  by_cases h : x.toBitVec.toNat < 2 ^ 31
  · exact Or.inr ⟨_, h, (nI_nat x).symm⟩
  · refine Or.inl ?_
    rw [Int32.lt_iff_toInt_lt, nI_toInt (by omega)]
    have e : x.toInt = x.toBitVec.toInt := rfl
    rw [e, BitVec.toInt_eq_toNat_cond]
    have := x.toBitVec.isLt
    split <;> omega
/-- signs of a read text -/
def TXR (bs : List Nat) (T : CT) (K : KT) : Prop := ((T.1 1).length ≤ 300) ∧ ((T.1 2).length = (T.1 1).length) ∧ ((T.1 3).length = (T.1 1).length) ∧ ((T.1 4).length = (T.1 1).length) ∧ ((T.1 6).length = (T.1 1).length) ∧ ((T.1 7).length = (T.1 1).length) ∧ ((T.1 8).length ≤ (T.1 1).length) ∧ ((T.1 9).length = (T.1 8).length) ∧ ((T.1 5).length ≤ 1000) ∧ ((wF K).length = (T.1 1).length) ∧ ((wL K).length = (T.1 1).length) ∧ (T.1 8 = sentK K (T.1 1).length) ∧ ((K 139).length ≤ bs.length) ∧ ((K 140).length = (K 139).length) ∧ ((K 141).length = (K 139).length) ∧ ((K 142).length = (K 139).length + 1) ∧ ((K 145).length = (K 144).length) ∧ ((K 146).length = (K 144).length) ∧ (3 * (K 144).length ≤ bs.length) ∧ (∀ k, k < (T.1 1).length → InvB T (K 139).length (chK K) (atK K) (enK K) (wF K) (wL K) k) ∧ (∀ k, k + 1 < (T.1 1).length → (wL K).getD k 0 < (wF K).getD (k + 1) 0) ∧ (∀ k, k < (T.1 1).length → (T.1 3).getD k 0 = wplK K k) ∧ (∀ k, k < (T.1 1).length → (T.1 4).getD k 0 = (sentK K (k + 1)).length - 1) ∧ (∀ j, j < (T.1 8).length → (T.1 9).getD j 0 = nbE (chK K) (enK K) (if j + 1 < (T.1 8).length then (wF K).getD ((T.1 8).getD (j + 1) 0) 0 else (K 139).length)) ∧ (∀ k, k < (T.1 8).length → (T.1 8).getD k 0 < (T.1 1).length) ∧ (∀ k, k + 1 < (T.1 8).length → (T.1 8).getD k 0 < (T.1 8).getD (k + 1) 0) ∧ (bs.length ≤ 1000) ∧ (T.1 0 = bs)
theorem TXR.W300 {bs : List Nat} {T : CT} {K : KT} (h : TXR bs T K) : (T.1 1).length ≤ 300 := h.1
theorem TXR.l2 {bs : List Nat} {T : CT} {K : KT} (h : TXR bs T K) : (T.1 2).length = (T.1 1).length := h.2.1
theorem TXR.l3 {bs : List Nat} {T : CT} {K : KT} (h : TXR bs T K) : (T.1 3).length = (T.1 1).length := h.2.2.1
theorem TXR.l4 {bs : List Nat} {T : CT} {K : KT} (h : TXR bs T K) : (T.1 4).length = (T.1 1).length := h.2.2.2.1
theorem TXR.l6 {bs : List Nat} {T : CT} {K : KT} (h : TXR bs T K) : (T.1 6).length = (T.1 1).length := h.2.2.2.2.1
theorem TXR.l7 {bs : List Nat} {T : CT} {K : KT} (h : TXR bs T K) : (T.1 7).length = (T.1 1).length := h.2.2.2.2.2.1
theorem TXR.l8 {bs : List Nat} {T : CT} {K : KT} (h : TXR bs T K) : (T.1 8).length ≤ (T.1 1).length := h.2.2.2.2.2.2.1
theorem TXR.l9 {bs : List Nat} {T : CT} {K : KT} (h : TXR bs T K) : (T.1 9).length = (T.1 8).length := h.2.2.2.2.2.2.2.1
theorem TXR.l5 {bs : List Nat} {T : CT} {K : KT} (h : TXR bs T K) : (T.1 5).length ≤ 1000 := h.2.2.2.2.2.2.2.2.1
theorem TXR.kF {bs : List Nat} {T : CT} {K : KT} (h : TXR bs T K) : (wF K).length = (T.1 1).length := h.2.2.2.2.2.2.2.2.2.1
theorem TXR.kL {bs : List Nat} {T : CT} {K : KT} (h : TXR bs T K) : (wL K).length = (T.1 1).length := h.2.2.2.2.2.2.2.2.2.2.1
theorem TXR.k8 {bs : List Nat} {T : CT} {K : KT} (h : TXR bs T K) : T.1 8 = sentK K (T.1 1).length := h.2.2.2.2.2.2.2.2.2.2.2.1
theorem TXR.k139 {bs : List Nat} {T : CT} {K : KT} (h : TXR bs T K) : (K 139).length ≤ bs.length := h.2.2.2.2.2.2.2.2.2.2.2.2.1
theorem TXR.k140 {bs : List Nat} {T : CT} {K : KT} (h : TXR bs T K) : (K 140).length = (K 139).length := h.2.2.2.2.2.2.2.2.2.2.2.2.2.1
theorem TXR.k141 {bs : List Nat} {T : CT} {K : KT} (h : TXR bs T K) : (K 141).length = (K 139).length := h.2.2.2.2.2.2.2.2.2.2.2.2.2.2.1
theorem TXR.k142 {bs : List Nat} {T : CT} {K : KT} (h : TXR bs T K) : (K 142).length = (K 139).length + 1 := h.2.2.2.2.2.2.2.2.2.2.2.2.2.2.2.1
theorem TXR.k145 {bs : List Nat} {T : CT} {K : KT} (h : TXR bs T K) : (K 145).length = (K 144).length := h.2.2.2.2.2.2.2.2.2.2.2.2.2.2.2.2.1
theorem TXR.k146 {bs : List Nat} {T : CT} {K : KT} (h : TXR bs T K) : (K 146).length = (K 144).length := h.2.2.2.2.2.2.2.2.2.2.2.2.2.2.2.2.2.1
theorem TXR.k144 {bs : List Nat} {T : CT} {K : KT} (h : TXR bs T K) : 3 * (K 144).length ≤ bs.length := h.2.2.2.2.2.2.2.2.2.2.2.2.2.2.2.2.2.2.1
theorem TXR.wb {bs : List Nat} {T : CT} {K : KT} (h : TXR bs T K) : ∀ k, k < (T.1 1).length → InvB T (K 139).length (chK K) (atK K) (enK K) (wF K) (wL K) k := h.2.2.2.2.2.2.2.2.2.2.2.2.2.2.2.2.2.2.2.1
theorem TXR.ww {bs : List Nat} {T : CT} {K : KT} (h : TXR bs T K) : ∀ k, k + 1 < (T.1 1).length → (wL K).getD k 0 < (wF K).getD (k + 1) 0 := h.2.2.2.2.2.2.2.2.2.2.2.2.2.2.2.2.2.2.2.2.1
theorem TXR.w3 {bs : List Nat} {T : CT} {K : KT} (h : TXR bs T K) : ∀ k, k < (T.1 1).length → (T.1 3).getD k 0 = wplK K k := h.2.2.2.2.2.2.2.2.2.2.2.2.2.2.2.2.2.2.2.2.2.1
theorem TXR.w4 {bs : List Nat} {T : CT} {K : KT} (h : TXR bs T K) : ∀ k, k < (T.1 1).length → (T.1 4).getD k 0 = (sentK K (k + 1)).length - 1 := h.2.2.2.2.2.2.2.2.2.2.2.2.2.2.2.2.2.2.2.2.2.2.1
theorem TXR.w9 {bs : List Nat} {T : CT} {K : KT} (h : TXR bs T K) : ∀ j, j < (T.1 8).length → (T.1 9).getD j 0 = nbE (chK K) (enK K) (if j + 1 < (T.1 8).length then (wF K).getD ((T.1 8).getD (j + 1) 0) 0 else (K 139).length) := h.2.2.2.2.2.2.2.2.2.2.2.2.2.2.2.2.2.2.2.2.2.2.2.1
theorem TXR.w8 {bs : List Nat} {T : CT} {K : KT} (h : TXR bs T K) : ∀ k, k < (T.1 8).length → (T.1 8).getD k 0 < (T.1 1).length := h.2.2.2.2.2.2.2.2.2.2.2.2.2.2.2.2.2.2.2.2.2.2.2.2.1
theorem TXR.s8 {bs : List Nat} {T : CT} {K : KT} (h : TXR bs T K) : ∀ k, k + 1 < (T.1 8).length → (T.1 8).getD k 0 < (T.1 8).getD (k + 1) 0 := h.2.2.2.2.2.2.2.2.2.2.2.2.2.2.2.2.2.2.2.2.2.2.2.2.2.1
theorem TXR.len {bs : List Nat} {T : CT} {K : KT} (h : TXR bs T K) : bs.length ≤ 1000 := h.2.2.2.2.2.2.2.2.2.2.2.2.2.2.2.2.2.2.2.2.2.2.2.2.2.2.1
theorem TXR.e0 {bs : List Nat} {T : CT} {K : KT} (h : TXR bs T K) : T.1 0 = bs := h.2.2.2.2.2.2.2.2.2.2.2.2.2.2.2.2.2.2.2.2.2.2.2.2.2.2.2
theorem txr {bs : List Nat} (hb : BB bs) (h : (cread bs).1 = none) : TXR bs (cread bs).2 (kread bs) := by
  obtain ⟨T, hT, wf, inv, t10, t0, _⟩ := cread_ok h
  have hb2 := hb.2
  have kw : KW bs.length (kread bs) := by
    obtain ⟨_, _, _, _, _, _, _, _, _, _, kw⟩ := m119 (L := 0) (d := 0) (z := (fun _ => [], fun _ _ => 0, fun _ _ => 0, fun _ _ => 0)) (bs := bs) (f := fun k => if k = 1 then nI bs.length else 0) (A := fun _ _ => 0) (Al := fun a => if a = 137 then bs else []) hb rfl rfl h
    exact kw
  rw [hT]
  have er : ∀ k, k ≠ 9 → (cEnd T).1 k = T.1 k := fun k hk => cEnd_row T hk
  obtain ⟨w1, w2, w3, w4, w6, w7, w5, w8, w9, w9', w10, wo, w11, w12, w13, w14, w15⟩ := wf
  obtain ⟨v1, v2, v3, v4, v5, v6, v7, v8, v9, v10, v11, v12, v13, v14, v15, v16⟩ := inv
  obtain ⟨q1, q2, q3, q4, q5, q6, q7, q8⟩ := kw
  have so := swl_sort (chK (kread bs)) (bkK (kread bs)) (wF (kread bs)) (wL (kread bs)) (T.1 1).length
  rw [← v9] at so
  have e9 : (T.1 1).length ≠ 0 → (cEnd T).1 9 = T.1 9 ++ [T.2 15] := fun q => by
    unfold cEnd
    simp only
    rw [if_neg q]
    exact vs _ _ _
  refine ⟨by rw [er 1 (by omega)]; exact w1, by rw [er 1 (by omega), er 2 (by omega)]; exact w2, by rw [er 1 (by omega), er 3 (by omega)]; exact w3, by rw [er 1 (by omega), er 4 (by omega)]; exact w4, by rw [er 1 (by omega), er 6 (by omega)]; exact w6, by rw [er 1 (by omega), er 7 (by omega)]; exact w7, by rw [er 1 (by omega), er 8 (by omega)]; exact w8, ?_, by rw [er 5 (by omega)]; omega, by rw [er 1 (by omega)]; exact v1, by rw [er 1 (by omega)]; exact v2, by rw [er 8 (by omega), er 1 (by omega)]; exact v9, q7, q1, q2, q3, q5, q6, q8, fun k hk => ?_, fun k hk => ?_, fun k hk => ?_, fun k hk => ?_, fun j hj => ?_, fun k hk => ?_, fun k hk => ?_, hb2, by rw [er 0 (by omega)]; exact t0⟩
  · rw [er 8 (by omega)]
    by_cases c : (T.1 1).length = 0
    · have : (cEnd T).1 9 = T.1 9 := by unfold cEnd; simp only; rw [if_pos c]
      rw [this]; omega
    · rw [e9 c, List.length_append]
      have := w9' c
      simp only [List.length_cons, List.length_nil]
      omega
  · rw [er 1 (by omega)] at hk
    have := v3 k hk
    unfold InvB at this ⊢
    rw [er 1 (by omega), er 2 (by omega), er 5 (by omega), er 6 (by omega), er 7 (by omega)]
    exact this
  · rw [er 1 (by omega)] at hk
    exact v4 k hk
  · rw [er 1 (by omega)] at hk
    rw [er 3 (by omega)]
    exact v8 k hk
  · rw [er 1 (by omega)] at hk
    rw [er 4 (by omega)]
    exact v10 k hk
  · rw [er 8 (by omega)] at hj ⊢
    have n0 : (T.1 1).length ≠ 0 := by omega
    have := w9' n0
    rw [e9 n0]
    by_cases c : j + 1 < (T.1 8).length
    · rw [getD_l (by omega), if_pos c]
      exact v14 j (by omega)
    · rw [getD_r (by omega), if_neg c]
      exact v13
  · rw [er 8 (by omega)] at hk ⊢
    rw [er 1 (by omega)]
    exact v16 k hk
  · rw [er 8 (by omega)] at hk ⊢
    exact pw_lt so (by omega) hk
/-- what the reference holds, all that is asked for -/
def GX (bs : List Nat) (Q : CT) (S : Option Sem) (lim : Nat) (f : Nat → Int32) (Al : Nat → List Nat) : Prop := (BB bs) ∧ ((cread bs).1 = none) ∧ (QOK Q S) ∧ (lim ≤ 300) ∧ (MTB bs f Al) ∧ (MQX Q f Al) ∧ (MNX Q S f Al) ∧ (f 36 = nI lim) ∧ (MR (cread bs).2 Q S (min lim ((cread bs).2.1 1).length) Al)
theorem GX.bb {bs : List Nat} {Q : CT} {S : Option Sem} {lim : Nat} {f : Nat → Int32} {Al : Nat → List Nat} (h : GX bs Q S lim f Al) : BB bs := h.1
theorem GX.rd {bs : List Nat} {Q : CT} {S : Option Sem} {lim : Nat} {f : Nat → Int32} {Al : Nat → List Nat} (h : GX bs Q S lim f Al) : (cread bs).1 = none := h.2.1
theorem GX.qo {bs : List Nat} {Q : CT} {S : Option Sem} {lim : Nat} {f : Nat → Int32} {Al : Nat → List Nat} (h : GX bs Q S lim f Al) : QOK Q S := h.2.2.1
theorem GX.l300 {bs : List Nat} {Q : CT} {S : Option Sem} {lim : Nat} {f : Nat → Int32} {Al : Nat → List Nat} (h : GX bs Q S lim f Al) : lim ≤ 300 := h.2.2.2.1
theorem GX.mt {bs : List Nat} {Q : CT} {S : Option Sem} {lim : Nat} {f : Nat → Int32} {Al : Nat → List Nat} (h : GX bs Q S lim f Al) : MTB bs f Al := h.2.2.2.2.1
theorem GX.mq {bs : List Nat} {Q : CT} {S : Option Sem} {lim : Nat} {f : Nat → Int32} {Al : Nat → List Nat} (h : GX bs Q S lim f Al) : MQX Q f Al := h.2.2.2.2.2.1
theorem GX.mn {bs : List Nat} {Q : CT} {S : Option Sem} {lim : Nat} {f : Nat → Int32} {Al : Nat → List Nat} (h : GX bs Q S lim f Al) : MNX Q S f Al := h.2.2.2.2.2.2.1
theorem GX.h36 {bs : List Nat} {Q : CT} {S : Option Sem} {lim : Nat} {f : Nat → Int32} {Al : Nat → List Nat} (h : GX bs Q S lim f Al) : f 36 = nI lim := h.2.2.2.2.2.2.2.1
theorem GX.mr {bs : List Nat} {Q : CT} {S : Option Sem} {lim : Nat} {f : Nat → Int32} {Al : Nat → List Nat} (h : GX bs Q S lim f Al) : MR (cread bs).2 Q S (min lim ((cread bs).2.1 1).length) Al := h.2.2.2.2.2.2.2.2
