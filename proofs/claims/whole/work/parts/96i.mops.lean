/-! THE WHOLE STATE: the other calls of the reference -/
section
variable {L d : Nat} {Z : zS} {xs : Nat → Int32} {tp bs : List Nat} {Q : CT} {S : Option Sem} {lim : Nat} {pf pl ot : List Nat}
theorem SC.refl (Z : zS) : SC Z Z := ⟨rfl, fun _ _ => rfl, rfl⟩
theorem MI_gx {F : Nat → Int32} (hF : Z.2.1 136 = F) (h : MI xs F Z.2.2.1 tp bs Q S lim pf pl ot) (hb : BB bs) (hr : (cread bs).1 = none) (qo : QOK Q S) (hl : lim ≤ 300) : ∃ J Al, Z = ms Z F J Al ∧ J 0 = xs ∧ GX bs Q S lim F Al ∧ F 1 = nI tp.length ∧ Al 137 = tp ∧ F 43 = nI pf.length ∧ Al 170 = pf ∧ Al 171 = pl ∧ F 47 = nI ot.length ∧ Al 172 = ot := by
  obtain ⟨J, Al, eA, j0, h1, h137, hT, hQ, hN, h36, hR, h43, h170, h171, h47, h172⟩ := h
  exact ⟨J, Al, ms_AR hF eA, j0, ⟨hb, hr, qo, hl, hT, hQ, hN, h36, hR⟩, h1, h137, h43, h170, h171, h47, h172⟩
theorem GX_MI {F : Nat → Int32} {J : Nat → Nat → Int32} {Al : Nat → List Nat} (j0 : J 0 = xs) (g : GX bs Q S lim F Al) (h1 : F 1 = nI tp.length) (h137 : Al 137 = tp) (h43 : F 43 = nI pf.length) (h170 : Al 170 = pf) (h171 : Al 171 = pl) (h47 : F 47 = nI ot.length) (h172 : Al 172 = ot) : MI xs ((ms Z F J Al).2.1 136) (ms Z F J Al).2.2.1 tp bs Q S lim pf pl ot := by
  rw [ms_f]
  exact ⟨J, Al, rfl, j0, h1, h137, g.mt, g.mq, g.mn, g.h36, g.mr, h43, h170, h171, h47, h172⟩
theorem M_feed (h : MI xs (Z.2.1 136) Z.2.2.1 tp bs Q S lim pf pl ot) (ht : BB tp) (x1 x2 x3 x4 x5 : Int32) : (tp.length + 20 ≤ 1000 → ∃ Z', SC Z Z' ∧ zden L (d + 1) 113 [.ref 136, .int x1, .int x2, .int x3, .int x4, .int x5] Z = some (nI (tp.length + 20), Z') ∧ MI xs (Z'.2.1 136) Z'.2.2.1 (tp ++ by20 x1 x2 x3 x4 x5) bs Q S lim pf pl ot) ∧ (¬ tp.length + 20 ≤ 1000 → zden L (d + 1) 113 [.ref 136, .int x1, .int x2, .int x3, .int x4, .int x5] Z = some (-2, Z)) := by
  obtain ⟨J, Al, eA, j0, h1, h137, hT, hQ, hN, h36, hR, h43, h170, h171, h47, h172⟩ := h
  have e := m_feed (L := L) (d := d) h1 ht.2 x1 x2 x3 x4 x5
  refine ⟨fun c => ?_, fun c => ?_⟩
  · rw [if_pos c] at e
    have bl := by20_len x1 x2 x3 x4 x5
    have ff : ∀ k, k ≠ 1 → zup Z.2.1 136 1 (nI (tp.length + 20)) 136 k = Z.2.1 136 k := fun k hk => zup_f _ _ hk
    have aa : ∀ a, a ≠ 137 → va_up Al 137 (tp ++ by20 x1 x2 x3 x4 x5) a = Al a := fun a ha => vn _ _ ha
    refine ⟨(Z.1, zup Z.2.1 136 1 (nI (tp.length + 20)), amap Z.2.2.1 137 tp.length 20 (by20at x1 x2 x3 x4 x5), Z.2.2.2), ⟨rfl, fun a ha => ?_, rfl⟩, e, J, va_up Al 137 (tp ++ by20 x1 x2 x3 x4 x5), ?_, j0, ?_, vs _ _ _, hT.fr (fun k hk => ff k (by simp at hk; omega)) (fun a b1 b2 => aa a (by omega)), hQ.fr (ff 21 (by omega)) (fun a b1 b2 => aa a (by omega)), hN.fr (ff 30 (by omega)) (fun a b1 b2 => aa a (by omega)), by show zup Z.2.1 136 1 (nI (tp.length + 20)) 136 36 = _; rw [ff 36 (by omega)]; exact h36, hR.fr (fun a b1 b2 => aa a (by omega)), by show zup Z.2.1 136 1 (nI (tp.length + 20)) 136 43 = _; rw [ff 43 (by omega)]; exact h43, by rw [aa 170 (by omega)]; exact h170, by rw [aa 171 (by omega)]; exact h171, by show zup Z.2.1 136 1 (nI (tp.length + 20)) 136 47 = _; rw [ff 47 (by omega)]; exact h47, by rw [aa 172 (by omega)]; exact h172⟩
    · funext k
      exact zup_a _ _ ha
    · show amap Z.2.2.1 137 tp.length 20 (by20at x1 x2 x3 x4 x5) = _
      rw [eA]
      funext a i
      unfold amap AR
      by_cases ca : a = 137
      · subst ca
        rw [vs, h137, List.length_append, bl]
        by_cases c1 : i < tp.length
        · rw [if_neg (by omega), if_pos ⟨by omega, c1⟩, if_pos ⟨by omega, by omega⟩]
          congr 1
          simp only [List.getD, List.getElem?_append, if_pos c1]
        · by_cases c2 : i < tp.length + 20
          · rw [if_pos ⟨rfl, by omega, c2⟩, if_pos ⟨by omega, c2⟩]
            congr 1
            unfold by20at
            simp only [List.getD, List.getElem?_append, if_neg c1]
          · rw [if_neg (by omega), if_neg (by omega), if_neg (by omega)]
      · rw [if_neg (fun q => ca q.1), aa a ca]
    · show zup Z.2.1 136 1 (nI (tp.length + 20)) 136 1 = _
      rw [zup_s, List.length_append, bl]
  · rw [if_neg c] at e
    exact e
theorem M_cut (h : MI xs (Z.2.1 136) Z.2.2.1 tp bs Q S lim pf pl ot) (ht : BB tp) (x : Int32) : (∀ k, x = nI k → k ≤ tp.length → ∃ Z', SC Z Z' ∧ zden L (d + 1) 114 [.ref 136, .int x] Z = some (nI tp.length, Z') ∧ MI xs (Z'.2.1 136) Z'.2.2.1 (tp.take k) bs Q S lim pf pl ot) ∧ (x < nI 0 ∨ ¬ x ≤ nI tp.length → zden L (d + 1) 114 [.ref 136, .int x] Z = some (-1, Z)) := by
  obtain ⟨J, Al, eA, j0, h1, h137, hT, hQ, hN, h36, hR, h43, h170, h171, h47, h172⟩ := h
  have e := m_cut (L := L) (d := d) h1 x
  have l := ht.2
  refine ⟨fun k hx hk => ?_, fun hx => ?_⟩
  · subst hx
    rw [if_neg (nI_p0 (by omega)), if_pos (nI_le hk (by omega))] at e
    have ff : ∀ i, i ≠ 1 → zup Z.2.1 136 1 (nI k) 136 i = Z.2.1 136 i := fun i hi => zup_f _ _ hi
    have aa : ∀ a, a ≠ 137 → va_up Al 137 (tp.take k) a = Al a := fun a ha => vn _ _ ha
    have tl : (tp.take k).length = k := by rw [List.length_take]; omega
    refine ⟨(Z.1, zup Z.2.1 136 1 (nI k), Z.2.2), ⟨rfl, fun a ha => ?_, rfl⟩, e, fun a i => if a = 137 then AR J Al 137 i else J a i, va_up Al 137 (tp.take k), ?_, ?_, ?_, vs _ _ _, hT.fr (fun k hk => ff k (by simp at hk; omega)) (fun a b1 b2 => aa a (by omega)), hQ.fr (ff 21 (by omega)) (fun a b1 b2 => aa a (by omega)), hN.fr (ff 30 (by omega)) (fun a b1 b2 => aa a (by omega)), by show zup Z.2.1 136 1 (nI k) 136 36 = _; rw [ff 36 (by omega)]; exact h36, hR.fr (fun a b1 b2 => aa a (by omega)), by show zup Z.2.1 136 1 (nI k) 136 43 = _; rw [ff 43 (by omega)]; exact h43, by rw [aa 170 (by omega)]; exact h170, by rw [aa 171 (by omega)]; exact h171, by show zup Z.2.1 136 1 (nI k) 136 47 = _; rw [ff 47 (by omega)]; exact h47, by rw [aa 172 (by omega)]; exact h172⟩
    · funext i
      exact zup_a _ _ ha
    · show Z.2.2.1 = _
      rw [eA]
      funext a i
      by_cases ca : a = 137
      · subst ca
        conv => rhs; unfold AR
        rw [vs, tl]
        by_cases c1 : i < k
        · rw [if_pos ⟨by omega, c1⟩]
          unfold AR
          rw [h137, if_pos ⟨by omega, by omega⟩]
          congr 1
          simp only [List.getD, List.getElem?_take, if_pos c1]
        · rw [if_neg (by omega)]
          rfl
      · unfold AR
        rw [aa a ca]
        by_cases c1 : 137 ≤ a ∧ i < (Al a).length
        · rw [if_pos c1, if_pos c1]
        · rw [if_neg c1, if_neg c1]
          exact (if_neg ca).symm
    · rw [← j0]; rfl
    · show zup Z.2.1 136 1 (nI k) 136 1 = _
      rw [zup_s, tl]
  · by_cases c : x < nI 0
    · rw [if_pos c] at e; exact e
    · rw [if_neg c, if_neg (hx.resolve_left c)] at e; exact e
theorem M_passages (h : MI xs (Z.2.1 136) Z.2.2.1 tp bs Q S lim pf pl ot) (hb : BB bs) (hr : (cread bs).1 = none) (qo : QOK Q S) (hl : lim ≤ 300) (x : Int32) : (∀ k, x = nI k → 1 ≤ k → k ≤ 9 → ∃ Z', SC Z Z' ∧ zden L (d + 2) 155 [.ref 136, .int x] Z = some (nI (pfA (fch (scrZ bs Q S lim) ((cread bs).2.1 8).length k) (jch (fch (scrZ bs Q S lim) ((cread bs).2.1 8).length k)) ((cread bs).2.1 8).length).length, Z') ∧ MI xs (Z'.2.1 136) Z'.2.2.1 tp bs Q S lim (pfA (fch (scrZ bs Q S lim) ((cread bs).2.1 8).length k) (jch (fch (scrZ bs Q S lim) ((cread bs).2.1 8).length k)) ((cread bs).2.1 8).length) (plA (fch (scrZ bs Q S lim) ((cread bs).2.1 8).length k) (jch (fch (scrZ bs Q S lim) ((cread bs).2.1 8).length k)) ((cread bs).2.1 8).length) ot) ∧ (x < nI 1 ∨ ¬ x ≤ nI 9 → zden L (d + 2) 155 [.ref 136, .int x] Z = some (-1, Z)) := by
  generalize hF : Z.2.1 136 = F at h
  obtain ⟨J, Al, eZ, j0, g, h1, h137, h43, h170, h171, h47, h172⟩ := MI_gx hF h hb hr qo hl
  refine ⟨fun k hx k1 k9 => ?_, fun hx => ?_⟩
  · subst hx
    obtain ⟨J', Al', fr, e, r1, r2⟩ := m155 (L := L) (d := d) (z := Z) (J := J) g k1 k9
    rw [← eZ] at e
    exact ⟨ms Z _ J' Al', SC_ms Z _ _ _, e, GX_MI (fr.1.trans j0) (g.fr (fun k hk => fr.2.1 k (by simp at hk ⊢; omega)) (fun a b1 b2 => fr.2.2 a (by simp; omega))) (by rw [fr.2.1 1 (by simp)]; exact h1) (by rw [fr.2.2 137 (by simp)]; exact h137) (vs _ _ _) r1 r2 (by rw [fr.2.1 47 (by simp)]; exact h47) (by rw [fr.2.2 172 (by simp)]; exact h172)⟩
  · rw [N155 _ _ ob136, B155_0]
    by_cases c : x < nI 1
    · rw [if_pos c, B155_11]
    · rw [if_neg c, B155_5, if_neg (hx.resolve_left c), B155_11]
theorem M_print (h : MI xs (Z.2.1 136) Z.2.2.1 tp bs Q S lim pf pl ot) (hb : BB bs) (hr : (cread bs).1 = none) (qo : QOK Q S) (hl : lim ≤ 300) (pc : PLC ((cread bs).2.1 8).length pf pl) (h9 : pf.length ≤ 9) (x : Int32) : ∃ Z', SC Z Z' ∧ zden L (d + 4) 161 [.ref 136, .int x] Z = some (nI (outZ bs Q S lim pf pl x).length, Z') ∧ MI xs (Z'.2.1 136) Z'.2.2.1 tp bs Q S lim pf pl (outZ bs Q S lim pf pl x) := by
  generalize hF : Z.2.1 136 = F at h
  obtain ⟨J, Al, eZ, j0, g, h1, h137, h43, h170, h171, h47, h172⟩ := MI_gx hF h hb hr qo hl
  obtain ⟨T', pi⟩ := pi_read hr
  have px : PX bs Q S lim F Al T' := ⟨g, pi⟩
  obtain ⟨F', J', Al', fr, r1, r2, e⟩ := m161 (L := L) (d := d) (z := Z) (J := J) px h43 h170 h171 pc h9 x
  rw [← eZ] at e
  exact ⟨ms Z F' J' Al', SC_ms Z _ _ _, e, GX_MI (fr.1.trans j0) (g.fr (fun k hk => fr.2.1 k (by simp at hk ⊢; omega)) (fun a b1 b2 => fr.2.2 a (by simp; omega))) (by rw [fr.2.1 1 (by simp)]; exact h1) (by rw [fr.2.2 137 (by simp)]; exact h137) (by rw [fr.2.1 43 (by simp)]; exact h43) (by rw [fr.2.2 170 (by simp)]; exact h170) (by rw [fr.2.2 171 (by simp)]; exact h171) r1 r2⟩
/-- the calls that only answer -/
theorem M_get (h : MI xs (Z.2.1 136) Z.2.2.1 tp bs Q S lim pf pl ot) (hb : BB bs) (hr : (cread bs).1 = none) (qo : QOK Q S) (hl : lim ≤ 300) (pc : PLC ((cread bs).2.1 8).length pf pl) (h9 : pf.length ≤ 9) (ho : ot.length ≤ 4539) : zden L (d + 4) 143 [.ref 136] Z = some (bI (tvS S (vC (cread bs).2 Q (min lim ((cread bs).2.1 1).length))), Z) ∧ (∀ x w, zden L (d + 4) 145 [.ref 136, .int x, .int w] Z = some (aWord (cread bs).2 Q S (min lim ((cread bs).2.1 1).length) x w, Z)) ∧ (∀ x w, zden L (d + 4) 146 [.ref 136, .int x, .int w] Z = some (aLet (cread bs).2 x w, Z)) ∧ (∀ x w, zden L (d + 4) 149 [.ref 136, .int x, .int w] Z = some (aSen (cread bs).2 Q S (min lim ((cread bs).2.1 1).length) x w, Z)) ∧ (∀ x w, zden L (d + 4) 150 [.ref 136, .int x, .int w] Z = some (aLeaf (cread bs).2 Q S (min lim ((cread bs).2.1 1).length) x w, Z)) ∧ (∀ x w, zden L (d + 4) 154 [.ref 136, .int x, .int w] Z = some (aPas (pfZ bs Q S lim) (plZ bs Q S lim) x w, Z)) ∧ (∀ x w, zden L (d + 4) 156 [.ref 136, .int x, .int w] Z = some (aPas pf pl x w, Z)) ∧ (∀ x, zden L (d + 4) 162 [.ref 136, .int x] Z = some (zget (ot.map nI) x, Z)) ∧ (∀ x, zden L (d + 4) 163 [.ref 136, .int x] Z = some (aCnt bs Q S lim tp pf ot x, Z)) := by
  generalize hF : Z.2.1 136 = F at h
  obtain ⟨J, Al, eZ, j0, g, h1, h137, h43, h170, h171, h47, h172⟩ := MI_gx hF h hb hr qo hl
  refine ⟨?_, fun x w => ?_, fun x w => ?_, fun x w => ?_, fun x w => ?_, fun x w => ?_, fun x w => ?_, fun x => ?_, fun x => ?_⟩
  · have e := m143 (L := L) (d := d + 3) (z := Z) (J := J) g
    rw [← eZ] at e; exact e
  · have e := m145 (L := L) (d := d + 1) (z := Z) (J := J) g x w
    rw [← eZ] at e; exact e
  · have e := m146 (L := L) (d := d + 1) (z := Z) (J := J) g x w
    rw [← eZ] at e; exact e
  · have e := m149 (L := L) (d := d + 2) (z := Z) (J := J) g x w
    rw [← eZ] at e; exact e
  · have e := m150 (L := L) (d := d + 3) (z := Z) (J := J) g x w
    rw [← eZ] at e; exact e
  · have e := m154 (L := L) (d := d + 1) (z := Z) (J := J) g x w
    rw [← eZ] at e; exact e
  · have e := m156 (L := L) (d := d + 3) (z := Z) (J := J) h43 h170 h171 pc.1 h9 x w
    rw [← eZ] at e; exact e
  · have e := m162 (L := L) (d := d + 3) (z := Z) (J := J) h47 h172 (by omega) x
    rw [← eZ] at e; exact e
  · have e := m163 (L := L) (d := d + 1) (z := Z) (J := J) g h1 h43 h47 x
    rw [← eZ] at e; exact e
end
