/-! EVALUATION: work -/
/-- what comes of the reference's work -/
def MR (T Q : CT) (S : Option Sem) (lk : Nat) (Al : Nat → List Nat) : Prop := Al 164 = (List.range (Q.1 6).length).map (fun l => bN (vC T Q lk l)) ∧ Al 165 = (List.range (Q.1 6).length).map (fun l => bN (lvS S (vC T Q lk) l)) ∧ Al 166 = (List.range (Q.1 6).length).map (fun l => cntW T Q l lk lk) ∧ CNT T Q lk (Q.1 6).length (Al 167) ∧ Al 168 = (List.range 300).map (fun v => bN (mkA T Q (lvS S (vC T Q lk)) lk (Q.1 6).length v)) ∧ Al 169 = (List.range 300).map (fun v => bN (decide (v ≠ 0) && jdA T Q (lvS S (vC T Q lk)) lk (Q.1 6).length (v - 1))) ∧ (S ≠ none → (Al 162).length = (Al 159).length ∧ (Al 162).getD ((Al 159).length - 1) 0 = bN (tvS S (vC T Q lk)))
section
variable {L d : Nat} {z : zS} {T Q : CT} {lk n : Nat} {f : Nat → Int32} {S : Option Sem}
theorem m141 {J : Nat → Nat → Int32} {Al : Nat → List Nat} (hX : MX T Q lk n f Al) (hN : MNX Q S f Al) (h0 : S = none → (Q.1 6).length = 0) :
    ∃ J' Al', FrM [] [162, 163, 164, 165, 166, 167, 168, 169, 186, 187] f J Al f J' Al' ∧ zden L (d + 6) 141 [.ref 136] (ms z f J Al) = some (0, ms z f J' Al') ∧ MR T Q S lk Al' := by
  have n12 : (Q.1 6).length ≤ 12 := hX.2.2.2.2.2.2.2.2.2.1
  obtain ⟨J1, Al1, v2, fr1, e1, a4, a5, a6, a7⟩ := m141_leaves (L := L) (d := d) (z := z) (J := J) hX .null
  have X1 : MX T Q lk n f Al1 := hX.fr (fr1.mono (by simp) (by simp))
  have e159 : Al1 159 = Al 159 := fr1.2.2 159 (by simp)
  have e160 : Al1 160 = Al 160 := fr1.2.2 160 (by simp)
  have e161 : Al1 161 = Al 161 := fr1.2.2 161 (by simp)
  have e0 : zden L (d + 6) 141 [.ref 136] (ms z f J Al) = xruns (O2 L) (zden L (d + 5)) 141 130 [.ref 136, .int (nI 0), v2] [] (ms z f J1 Al1) := by
    rw [N141 _ ob136, B141_0, e1, B141_128]
  cases S with
  | none =>
    have n6 := h0 rfl
    have h30 := hN.1 rfl
    have l165 : Al1 165 = (List.range (Q.1 6).length).map (fun l => bN (lvS none (vC T Q lk) l)) := by rw [a5, n6]; rfl
    obtain ⟨J2, Al2, fr2, e2, b8, b9⟩ := m142 (L := L) (d := d) (z := z) (J := J1) X1 l165 a7
    refine ⟨J2, Al2, (fr1.mono (by simp) (by simp)).trans (fr2.mono (by simp) (by simp)), ?_, ?_, ?_, ?_, ?_, b8, b9, fun q => absurd rfl q⟩
    · rw [e0, B141_130, M30r, Option.bind_some, h30, iL (by omega) (by omega), if_pos (Nat.le_refl _), B141_286, M30r, Option.bind_some, h30, iL (by omega) (by omega), if_pos (Nat.le_refl _), B141_315, M30r, Option.bind_some, h30, B141_322, if_pos (by decide), B141_419, e2, Option.bind_some]
    · rw [fr2.2.2 164 (by simp), a4]
    · rw [fr2.2.2 165 (by simp), l165]
    · rw [fr2.2.2 166 (by simp), a6]
    · rw [fr2.2.2 167 (by simp)]; exact a7
  | some s =>
    obtain ⟨TS, h30, n1, n200, lT, lA, lB, hq, hS⟩ := hN.2 s rfl
    rw [← e159] at h30 n1 n200 lT lA lB hq hS
    rw [← e160] at lA hq
    rw [← e161] at lB hq
    obtain ⟨J2, v2', k2, e2⟩ := m141_nodes (L := L) (d := d) (z := z) (v := vC T Q lk) (J := J1) (Al := Al1) h30 n200 lT lA lB hq n12 a4 v2
    generalize hB : va_up (va_up Al1 162 ((List.range (Al1 159).length).map (fun k => bN (trT TS (vC T Q lk) k)))) 163 (List.replicate (Al1 159).length 0) = Al2 at e2
    have g : ∀ a, a ∉ [162, 163] → Al2 a = Al1 a := fun a ha => by
      rw [← hB]
      have h1 : a ≠ 163 := fun q => ha (by simp [q])
      have h2 : a ≠ 162 := fun q => ha (by simp [q])
      rw [vn _ _ h1, vn _ _ h2]
    have g159 : Al2 159 = Al1 159 := g 159 (by simp)
    have g160 : Al2 160 = Al1 160 := g 160 (by simp)
    have g161 : Al2 161 = Al1 161 := g 161 (by simp)
    have g162 : Al2 162 = (List.range (Al2 159).length).map (fun k => bN (trT TS (vC T Q lk) k)) := by
      rw [g159, ← hB, vn _ _ (by omega), vs]
    have g163 : Al2 163 = List.replicate (Al2 159).length 0 := by rw [g159, ← hB, vs]
    have g165 : Al2 165 = List.replicate (Q.1 6).length 0 := by rw [g 165 (by simp), a5]
    rw [← g159] at h30 n1 n200 lT lA lB hq hS e2
    rw [← g160] at lA hq
    rw [← g161] at lB hq
    obtain ⟨X, x1', e3⟩ := m141_lit (L := L) (d := d) (z := z) (v := vC T Q lk) (J := J2) (Al := Al2) h30 n1 n200 lT lA lB hq n12 hS g162 g163 g165 (nI (Al2 159).length) v2'
    generalize hC : va_up (va_up Al2 163 X) 165 ((List.range (Q.1 6).length).map (fun l => bN (s.1 (vC T Q lk) && s.2 (vC T Q lk) l))) = Al3 at e3
    have k : ∀ a, a ∉ [163, 165] → Al3 a = Al2 a := fun a ha => by
      rw [← hC]
      have h1 : a ≠ 163 := fun q => ha (by simp [q])
      have h2 : a ≠ 165 := fun q => ha (by simp [q])
      rw [vn _ _ h2, vn _ _ h1]
    have l165 : Al3 165 = (List.range (Q.1 6).length).map (fun l => bN (lvS (some s) (vC T Q lk) l)) := by rw [← hC, vs]; rfl
    have fr3 : FrM [] [162, 163, 164, 165, 166, 167, 168, 169, 186, 187] f J1 Al1 f J2 Al3 := ⟨k2, fun _ _ => rfl, fun a ha => by
      rw [k a (fun q => ha (by simp at q ⊢; omega)), g a (fun q => ha (by simp at q ⊢; omega))]⟩
    have X3 : MX T Q lk n f Al3 := X1.fr (fr3.mono (by simp) (by simp))
    have a7' : CNT T Q lk (Q.1 6).length (Al3 167) := by rw [k 167 (by simp), g 167 (by simp)]; exact a7
    obtain ⟨J4, Al4, fr4, e4, b8, b9⟩ := m142 (L := L) (d := d) (z := z) (J := J2) X3 l165 a7'
    refine ⟨J4, Al4, ((fr1.mono (by simp) (by simp)).trans fr3).trans (fr4.mono (by simp) (by simp)), ?_, ?_, ?_, ?_, ?_, b8, b9, fun _ => ⟨?_, ?_⟩⟩
    · rw [e0, e2, e3, B141_419, e4, Option.bind_some]
    · rw [fr4.2.2 164 (by simp), k 164 (by simp), g 164 (by simp), a4]
    · rw [fr4.2.2 165 (by simp), l165]
    · rw [fr4.2.2 166 (by simp), k 166 (by simp), g 166 (by simp), a6]
    · rw [fr4.2.2 167 (by simp)]; exact a7'
    · rw [fr4.2.2 162 (by simp), fr4.2.2 159 (by simp), k 162 (by simp), k 159 (by simp), g162, List.length_map, List.length_range]
    · rw [fr4.2.2 162 (by simp), fr4.2.2 159 (by simp), k 162 (by simp), k 159 (by simp), g162, map_at (by omega), trT_at hS]; rfl
end
