/-! THE WHOLE STATE: what the class holds (CI), what the reference holds (MI) -/
theorem nI_nat (x : Int32) : nI x.toBitVec.toNat = x := by
  apply Int32.toBitVec_inj.mp
  show BitVec.ofNat 32 _ = _
  rw [BitVec.ofNat_toNat, BitVec.setWidth_eq]
theorem map_nat (l : List Int32) : (l.map (fun x => x.toBitVec.toNat)).map nI = l := by
  rw [List.map_map]
  exact (List.map_congr_left (fun x _ => nI_nat x)).trans (List.map_id l)
theorem anyT (Z : zS) (t : Nat) : ∃ T, putT Z t T = Z := by
  refine ⟨(fun k => if k = 10 then (Z.1 (t + 22)).map (fun x => x.toBitVec.toNat) else (Z.1 (t + (2 * k + 1))).map (fun x => x.toBitVec.toNat), fun f => (Z.2.1 t f).toBitVec.toNat), ?_⟩
  unfold putT
  refine Prod.ext (funext fun a => ?_) (Prod.ext (funext fun a => funext fun f => ?_) rfl)
  · simp only
    split
    · rename_i h
      rw [if_pos trivial, map_nat, h]
    · split
      · rename_i h1 h2
        rw [if_neg (by omega), map_nat, show t + (2 * ((a - t) / 2) + 1) = a by omega]
      · rfl
  · simp only
    split
    · rename_i h
      rw [nI_nat, h.1]
    · rfl
theorem anyQ (Z : zS) (t : Nat) : ∃ T, putQ Z t T = Z := by
  refine ⟨(fun k => (Z.1 (t + (2 * k + 1))).map (fun x => x.toBitVec.toNat), fun f => (Z.2.1 t f).toBitVec.toNat), ?_⟩
  unfold putQ
  refine Prod.ext (funext fun a => ?_) (Prod.ext (funext fun a => funext fun f => ?_) rfl)
  · simp only
    split
    · rename_i h2
      rw [map_nat, show t + (2 * ((a - t) / 2) + 1) = a by omega]
    · rfl
  · simp only
    split
    · rename_i h
      rw [nI_nat, h.1]
    · rfl
theorem putT_o {z : zS} {t a : Nat} {T : CT} (h : ¬ (t ≤ a ∧ a ≤ t + 22)) : (putT z t T).1 a = z.1 a := by
  unfold putT
  simp only
  rw [if_neg (by omega), if_neg (by omega)]
theorem putQ_o {z : zS} {t a : Nat} {T : CT} (h : ¬ (t ≤ a ∧ a ≤ t + 19)) : (putQ z t T).1 a = z.1 a := by
  unfold putQ
  simp only
  rw [if_neg (by omega)]
theorem putT_f {z : zS} {t a : Nat} {T : CT} (h : a ≠ t) : (putT z t T).2.1 a = z.2.1 a := by
  funext f
  unfold putT
  simp only
  rw [if_neg (fun q => h q.1)]
theorem putQ_f {z : zS} {t a : Nat} {T : CT} (h : a ≠ t) : (putQ z t T).2.1 a = z.2.1 a := by
  funext f
  unfold putQ
  simp only
  rw [if_neg (fun q => h q.1)]
theorem putM_f {z : zS} {a : Nat} {M : CT} (h : a ≠ 4) : (putM z M).2.1 a = z.2.1 a := by
  funext f
  unfold putM
  simp only
  rw [if_neg (fun q => h q.1)]
theorem putM_putM (z : zS) (M M' : CT) : putM (putM z M) M' = putM z M' := by
  unfold putM
  refine Prod.ext (funext fun a => ?_) (Prod.ext (funext fun a => funext fun f => ?_) rfl)
  · simp only
    split
    · rfl
    · rfl
  · simp only
    split
    · rfl
    · rfl
theorem putM_same {Z Z' : zS} {M : CT} (h : Z = putM Z M) (h1 : ∀ a, 50 ≤ a → a ≤ 76 → Z'.1 a = Z.1 a) (h2 : Z'.2.1 4 16 = Z.2.1 4 16) : Z' = putM Z' M := by
  have k1 : ∀ a, Z.1 a = (putM Z M).1 a := fun a => congrFun (congrArg Prod.fst h) a
  have k2 : Z.2.1 4 16 = (putM Z M).2.1 4 16 := congrFun (congrFun (congrArg (fun z => z.2.1) h) 4) 16
  unfold putM at k1 k2 ⊢
  refine Prod.ext (funext fun a => ?_) (Prod.ext (funext fun a => funext fun f => ?_) rfl)
  · simp only
    split
    · rename_i q
      rw [h1 a q.1 q.2.1, k1 a]
      simp only
      rw [if_pos q]
    · rfl
  · simp only
    split
    · rename_i q
      rw [q.1, q.2, h2, k2]
      simp only [and_self, if_true]
    · rfl
def fI (o : Option Nat) : Int32 := match o with
  | some q => nI q
  | none => -1
def CI (Z : zS) (tp bs : List Nat) (Q : CT) (S : Option Sem) (lim : Nat) (pf pl ot : List Nat) : Prop := ∃ t t2 q q2 M, (t = 5 ∧ t2 = 91 ∨ t = 91 ∧ t2 = 5) ∧ (q = 29 ∧ q2 = 115 ∨ q = 115 ∧ q2 = 29) ∧ Z.2.2.2 1 4 = t2 ∧ Z.2.2.2 1 5 = q2 ∧ RO Z t q (cread bs).2 Q ∧ Z.1 2 = tp.map nI ∧ Z.2.1 1 6 = nI lim ∧ Z = putM Z M ∧ JR (cread bs).2 Q S (min lim ((cread bs).2.1 1).length) M ∧ Z.1 79 = pf.map nI ∧ Z.1 81 = pl.map nI ∧ Z.1 86 = ot.map nI
/-- the reference's part of the state stays -/
def SM (Z Z' : zS) : Prop := Z'.2.1 136 = Z.2.1 136 ∧ Z'.2.2.1 = Z.2.2.1
/-- the class's part of the state stays -/
theorem CI.model {Z Z' : zS} {tp bs : List Nat} {Q : CT} {S : Option Sem} {lim : Nat} {pf pl ot : List Nat} (h : CI Z tp bs Q S lim pf pl ot) (h1 : Z'.1 = Z.1) (h2 : ∀ a, a ≠ 136 → Z'.2.1 a = Z.2.1 a) (h3 : Z'.2.2.2 = Z.2.2.2) : CI Z' tp bs Q S lim pf pl ot := by
  obtain ⟨t, t2, q, q2, M, a1, a2, a3, a4, a5, a6, a7, a8, a9, a10, a11, a12⟩ := h
  obtain ⟨r1, r2, r3, r4, r5, r6⟩ := a5
  refine ⟨t, t2, q, q2, M, a1, a2, by rw [h3]; exact a3, by rw [h3]; exact a4, ⟨r1, r2, by rw [h3]; exact r3, by rw [h3]; exact r4, by rw [h1]; exact r5, by rw [h1]; exact r6⟩, by rw [h1]; exact a6, by rw [h2 1 (by omega)]; exact a7, putM_same a8 (fun a _ _ => by rw [h1]) (by rw [h2 4 (by omega)]), a9, by rw [h1]; exact a10, by rw [h1]; exact a11, by rw [h1]; exact a12⟩
section
variable {L d : Nat} {Z : zS} {tp bs : List Nat} {Q : CT} {S : Option Sem} {lim : Nat} {pf pl ot : List Nat}
theorem x1 (Z : zS) : zden L (d + 2) 1 [.ref 78] Z = some (0, zrs (zrs Z 79 []) 81 []) := by
  rw [N1 _ ob78, B1_0, J78_0, Option.bind_some, N63 rfl, Option.bind_some, J78_1, Option.bind_some, N63 rfl, Option.bind_some]
theorem zrs_o {Z : zS} {a b : Nat} {l : List Int32} (h : b ≠ a) : (zrs Z a l).1 b = Z.1 b := vn _ _ h
theorem zrs_s {Z : zS} {a : Nat} {l : List Int32} : (zrs Z a l).1 a = l := vs _ _ _
theorem fI_1 : fI none = -1 := rfl
theorem c_text (h : CI Z tp bs Q S lim pf pl ot) (hb : BB tp) (hbs : BB bs) (hr : (cread bs).1 = none) (qo : QOK Q S) (hl : lim ≤ 300) :
    ∃ Z', SM Z Z' ∧ (∀ p, (cread tp).1 = some p → zden L (d + 9) 89 [.ref 1] Z = some (-1 - nI p, Z') ∧ CI Z' [] bs Q S lim [] [] ot) ∧ ((cread tp).1 = none → zden L (d + 9) 89 [.ref 1] Z = some (nI ((cread tp).2.1 1).length, Z') ∧ CI Z' [] tp Q S lim [] [] ot) := by
  obtain ⟨t, t2, q, q2, M, a1, a2, a3, a4, a5, a6, a7, a8, a9, a10, a11, a12⟩ := h
  obtain ⟨r1, r2, r3, r4, r5, r6⟩ := a5
  have ht2 : isT t2 := by
    rcases a1 with ⟨_, e⟩ | ⟨_, e⟩
    · exact Or.inr e
    · exact Or.inl e
  obtain ⟨T2, eT⟩ := anyT Z t2
  have e78 := c78 (L := L) (d := d + 2) (z := Z) (t := t2) (T := T2) (bs := tp) ht2 a6 hb
  rw [eT] at e78
  have e78 : zden L (d + 8) 78 [.ref t2, .ref 2] Z = some (fI (cread tp).1, putT Z t2 (cread tp).2) := e78
  generalize hZ3 : zrs (zrs (zrs (putT Z t2 (cread tp).2) 2 []) 79 []) 81 [] = Z3
  -- what Z3 holds
  have rows : ∀ a, a ≠ 2 → a ≠ 79 → a ≠ 81 → ¬ (t2 ≤ a ∧ a ≤ t2 + 22) → Z3.1 a = Z.1 a := fun a h1 h2 h3 h4 => by
    rw [← hZ3, zrs_o h3, zrs_o h2, zrs_o h1, putT_o h4]
  have flds : ∀ a, a ≠ t2 → Z3.2.1 a = Z.2.1 a := fun a ha => by rw [← hZ3]; exact putT_f ha
  have ptr : Z3.2.2.2 = Z.2.2.2 := by rw [← hZ3]; rfl
  have arr : Z3.2.2.1 = Z.2.2.1 := by rw [← hZ3]; rfl
  have z2 : Z3.1 2 = ([] : List Nat).map nI := by
    rw [← hZ3, zrs_o (by omega), zrs_o (by omega), zrs_s]; rfl
  have z79 : Z3.1 79 = ([] : List Nat).map nI := by rw [← hZ3, zrs_o (by omega), zrs_s]; rfl
  have z81 : Z3.1 81 = ([] : List Nat).map nI := by rw [← hZ3, zrs_s]; rfl
  have zt2 : ∀ k, k ≤ 9 → Z3.1 (t2 + (2 * k + 1)) = ((cread tp).2.1 k).map nI := fun k hk => by
    have n2 : t2 + (2 * k + 1) ≠ 2 := by rcases ht2 with e | e <;> omega
    have n79 : t2 + (2 * k + 1) ≠ 79 := by rcases ht2 with e | e <;> omega
    have n81 : t2 + (2 * k + 1) ≠ 81 := by rcases ht2 with e | e <;> omega
    rw [← hZ3, zrs_o n81, zrs_o n79, zrs_o n2]
    exact gTk k hk
  have zt : ∀ k, k ≤ 9 → Z3.1 (t + (2 * k + 1)) = ((cread bs).2.1 k).map nI := fun k hk => by
    rw [rows _ (by rcases a1 with e | e <;> omega) (by rcases a1 with e | e <;> omega) (by rcases a1 with e | e <;> omega) (by rcases a1 with e | e <;> omega)]
    exact r5 k hk
  have zq : ∀ k, k ≤ 9 → Z3.1 (q + (2 * k + 1)) = (Q.1 k).map nI := fun k hk => by
    rw [rows _ (by rcases a2 with e | e <;> omega) (by rcases a2 with e | e <;> omega) (by rcases a2 with e | e <;> omega) (by rcases a1 with e | e <;> rcases a2 with e' | e' <;> omega)]
    exact r6 k hk
  have zm : ∀ a, 50 ≤ a → a ≤ 76 → Z3.1 a = Z.1 a := fun a h1 h2 => rows a (by omega) (by omega) (by omega) (by rcases a1 with e | e <;> omega)
  have z86 : Z3.1 86 = ot.map nI := by rw [rows 86 (by omega) (by omega) (by omega) (by rcases a1 with e | e <;> omega)]; exact a12
  have f1 : Z3.2.1 1 = Z.2.1 1 := flds 1 (by rcases a1 with e | e <;> omega)
  have f4 : Z3.2.1 4 = Z.2.1 4 := flds 4 (by rcases a1 with e | e <;> omega)
  have f136 : Z3.2.1 136 = Z.2.1 136 := flds 136 (by rcases a1 with e | e <;> omega)
  have start : zden L (d + 9) 89 [.ref 1] Z = if fI (cread tp).1 = -1 then xruns (O2 L) (zden L (d + 8)) 89 35 [.ref 1, .int (fI (cread tp).1), .null] [] Z3 else xruns (O2 L) (zden L (d + 8)) 89 31 [.ref 1, .int (fI (cread tp).1), .null] [] Z3 := by
    rw [N89 _ ob1, B89_0, J1_4, Option.bind_some, a3, J1_0, Option.bind_some, e78, Option.bind_some, J1_0, Option.bind_some, N63 rfl, Option.bind_some, J1_2, Option.bind_some, x1, Option.bind_some, ← hZ3]
  cases hc : (cread tp).1 with
  | some p =>
    have pl1 : p ≤ tp.length := by
      unfold cread at hc
      have i2 := cgo_wf (bs := tp) tp.length 0 (T0 tp) (WfT0 tp) (by omega) rfl
      cases hq : cgo tp tp.length 0 (T0 tp) with
      | mk o T =>
        rw [hq] at hc i2
        cases o with
        | some x =>
          cases hc
          exact Nat.le_of_lt (i2.2.2 p rfl)
        | none =>
          simp only at hc
          split at hc
          · cases hc
          · cases hc; exact Nat.le_refl _
    have hb2 := hb.2
    refine ⟨Z3, ⟨f136, arr⟩, fun p' hp => ?_, fun q => by cases q⟩
    cases hp
    refine ⟨?_, t, t2, q, q2, M, a1, a2, by rw [ptr]; exact a3, by rw [ptr]; exact a4, ⟨r1, r2, by rw [ptr]; exact r3, by rw [ptr]; exact r4, zt, zq⟩, z2, by rw [f1]; exact a7, putM_same a8 zm (by rw [f4]), a9, z79, z81, z86⟩
    rw [start, hc]
    show (if nI p = -1 then _ else _) = _
    rw [if_neg (fun q => m1_ne (show p < 2 ^ 31 by omega) q.symm), B89_31]
    rfl
  | none =>
    obtain ⟨to, _, _, _, _, _⟩ := txt_ok hb hc
    generalize hZ5 : ((Z3.1, Z3.2.1, Z3.2.2.1, zup (zup Z3.2.2.2 4 0 t2) 1 4 t) : zS) = Z5
    have p40 : Z5.2.2.2 4 0 = t2 := by rw [← hZ5]; unfold zup; simp
    have p14 : Z5.2.2.2 1 4 = t := by rw [← hZ5]; unfold zup; simp
    have p41 : Z5.2.2.2 4 1 = q := by rw [← hZ5]; show zup (zup Z3.2.2.2 4 0 t2) 1 4 t 4 1 = q; unfold zup; simp; rw [ptr]; exact r4
    have p15 : Z5.2.2.2 1 5 = q2 := by rw [← hZ5]; show zup (zup Z3.2.2.2 4 0 t2) 1 4 t 1 5 = q2; unfold zup; simp; rw [ptr]; exact a4
    have R5 : Z5.1 = Z3.1 := by rw [← hZ5]
    have F5 : Z5.2.1 = Z3.2.1 := by rw [← hZ5]
    have A5 : Z5.2.2.1 = Z3.2.2.1 := by rw [← hZ5]
    have M5 : Z5 = putM Z5 M := putM_same a8 (fun a h1 h2 => by rw [R5]; exact zm a h1 h2) (by rw [F5, f4])
    have ro5 : RO Z5 t2 q (cread tp).2 Q := ⟨ht2, r2, p40, p41, by rw [R5]; exact zt2, by rw [R5]; exact zq⟩
    obtain ⟨M', e10, jr⟩ := x10 (L := L) (d := d + 1) (z := Z5) (M := M) (n := lim) ro5 to qo hl
    rw [← M5] at e10
    have go : ∀ a, ¬ (50 ≤ a ∧ a ≤ 76 ∧ a % 2 = 0) → (putM Z5 M').1 a = Z3.1 a := fun a ha => by rw [gMo ha, R5]
    refine ⟨putM Z5 M', ⟨?_, ?_⟩, (fun p q => by cases q), fun _ => ⟨?_, t2, t, q, q2, M', by rcases a1 with e | e; exact Or.inr ⟨e.2, e.1⟩; exact Or.inl ⟨e.2, e.1⟩, a2, p14, p15, ⟨ht2, r2, p40, p41, fun k hk => ?_, fun k hk => ?_⟩, ?_, ?_, (putM_putM _ _ _).symm, jr, ?_, ?_, ?_⟩⟩
    · rw [putM_f (by omega), F5, f136]
    · show Z5.2.2.1 = _
      rw [A5, arr]
    · rw [start, hc, if_pos fI_1, B89_35, J1_1, Option.bind_some, J4_0, Option.bind_some, ptr, r3, Option.bind_some, J1_4, Option.bind_some, ptr, a3, K4_0, Option.bind_some, K1_4, Option.bind_some]
      show ((O2 L).2.1 (Z3.1, Z3.2.1, Z3.2.2.1, zup (zup Z3.2.2.2 4 0 t2) 1 4 t) 1 7 1).bind _ = _
      rw [hZ5, J1_1, Option.bind_some, J1_6, Option.bind_some, F5, f1, a7, e10, Option.bind_some, J1_1, Option.bind_some, XP0 ro5, Option.bind_some, x74 ro5, Option.bind_some]
    · rw [go _ (by rcases ht2 with e | e <;> omega)]
      exact zt2 k hk
    · rw [go _ (by rcases r2 with e | e <;> omega)]
      exact zq k hk
    · rw [go 2 (by omega)]; exact z2
    · rw [putM_f (by omega), F5, f1]; exact a7
    · rw [go 79 (by omega)]; exact z79
    · rw [go 81 (by omega)]; exact z81
    · rw [go 86 (by omega)]; exact z86
end
