/-! THE WHOLE STATE: the other calls of the class -/
section
variable {L d : Nat} {Z : zS} {tp bs : List Nat} {Q : CT} {S : Option Sem} {lim : Nat} {pf pl ot : List Nat}
theorem SM.refl (Z : zS) : SM Z Z := ⟨rfl, rfl⟩
/-- rows beside the text, the query and the match are changed -/
theorem CI.rows {Z' : zS} {tp' pf' pl' ot' : List Nat} (h : CI Z tp bs Q S lim pf pl ot) (h2 : Z'.2 = Z.2) (hr : ∀ r, r ≠ 2 → r ≠ 79 → r ≠ 81 → r ≠ 83 → r ≠ 86 → r ≠ 89 → Z'.1 r = Z.1 r) (e2 : Z'.1 2 = tp'.map nI) (e79 : Z'.1 79 = pf'.map nI) (e81 : Z'.1 81 = pl'.map nI) (e86 : Z'.1 86 = ot'.map nI) : CI Z' tp' bs Q S lim pf' pl' ot' := by
  obtain ⟨t, t2, q, q2, M, a1, a2, a3, a4, a5, a6, a7, a8, a9, a10, a11, a12⟩ := h
  obtain ⟨r1, r2, r3, r4, r5, r6⟩ := a5
  have f1 : Z'.2.1 = Z.2.1 := by rw [h2]
  have f2 : Z'.2.2.2 = Z.2.2.2 := by rw [h2]
  refine ⟨t, t2, q, q2, M, a1, a2, by rw [f2]; exact a3, by rw [f2]; exact a4, ⟨r1, r2, by rw [f2]; exact r3, by rw [f2]; exact r4, fun k hk => ?_, fun k hk => ?_⟩, e2, by rw [f1]; exact a7, putM_same a8 (fun a b1 b2 => hr a (by omega) (by omega) (by omega) (by omega) (by omega) (by omega)) (by rw [f1]), a9, e79, e81, e86⟩
  · rw [hr _ (by rcases r1 with e | e <;> omega) (by rcases r1 with e | e <;> omega) (by rcases r1 with e | e <;> omega) (by rcases r1 with e | e <;> omega) (by rcases r1 with e | e <;> omega) (by rcases r1 with e | e <;> omega)]
    exact r5 k hk
  · rw [hr _ (by rcases r2 with e | e <;> omega) (by rcases r2 with e | e <;> omega) (by rcases r2 with e | e <;> omega) (by rcases r2 with e | e <;> omega) (by rcases r2 with e | e <;> omega) (by rcases r2 with e | e <;> omega)]
    exact r6 k hk
theorem C_feed (h : CI Z tp bs Q S lim pf pl ot) (hb : BB tp) (x1 x2 x3 x4 x5 : Int32) : (tp.length + 20 ≤ 1000 → ∃ Z', SM Z Z' ∧ zden L (d + 4) 87 [.ref 1, .int x1, .int x2, .int x3, .int x4, .int x5] Z = some (nI (tp.length + 20), Z') ∧ CI Z' (tp ++ by20 x1 x2 x3 x4 x5) bs Q S lim pf pl ot) ∧ (¬ tp.length + 20 ≤ 1000 → zden L (d + 4) 87 [.ref 1, .int x1, .int x2, .int x3, .int x4, .int x5] Z = some (-2, Z)) := by
  have h' := h
  obtain ⟨t, t2, q, q2, M, a1, a2, a3, a4, a5, a6, a7, a8, a9, a10, a11, a12⟩ := h'
  have e := c_feed (L := L) (d := d) a6 hb.2 x1 x2 x3 x4 x5
  refine ⟨fun c => ?_, fun c => ?_⟩
  · rw [if_pos c] at e
    exact ⟨zrs Z 2 ((tp ++ by20 x1 x2 x3 x4 x5).map nI), ⟨rfl, rfl⟩, e, h.rows rfl (fun r r1 _ _ _ _ _ => zrs_o r1) zrs_s (by rw [zrs_o (by omega)]; exact a10) (by rw [zrs_o (by omega)]; exact a11) (by rw [zrs_o (by omega)]; exact a12)⟩
  · rw [if_neg c] at e
    exact e
theorem C_cut (h : CI Z tp bs Q S lim pf pl ot) (hb : BB tp) (x : Int32) : (∀ k, x = nI k → k ≤ tp.length → ∃ Z', SM Z Z' ∧ zden L (d + 2) 88 [.ref 1, .int x] Z = some (nI tp.length, Z') ∧ CI Z' (tp.take k) bs Q S lim pf pl ot) ∧ (x < nI 0 ∨ ¬ x ≤ nI tp.length → zden L (d + 2) 88 [.ref 1, .int x] Z = some (-1, Z)) := by
  have h' := h
  obtain ⟨t, t2, q, q2, M, a1, a2, a3, a4, a5, a6, a7, a8, a9, a10, a11, a12⟩ := h'
  have e := c_cut (L := L) (d := d) a6 hb.2 x
  have l := hb.2
  refine ⟨fun k hx hk => ?_, fun hx => ?_⟩
  · subst hx
    rw [if_neg (nI_p0 (by omega)), if_pos (nI_le hk (by omega)), nI_clamp (by omega)] at e
    exact ⟨zrs Z 2 ((tp.take k).map nI), ⟨rfl, rfl⟩, e, h.rows rfl (fun r r1 _ _ _ _ _ => zrs_o r1) zrs_s (by rw [zrs_o (by omega)]; exact a10) (by rw [zrs_o (by omega)]; exact a11) (by rw [zrs_o (by omega)]; exact a12)⟩
  · by_cases c : x < nI 0
    · rw [if_pos c] at e; exact e
    · rw [if_neg c, if_neg (hx.resolve_left c)] at e; exact e
theorem putM_get {M : CT} (h : Z = putM Z M) {k : Nat} (hk : k ≤ 13) : Z.1 (50 + 2 * k) = (M.1 k).map nI := by
  have : Z.1 (50 + 2 * k) = (putM Z M).1 (50 + 2 * k) := congrFun (congrArg Prod.fst h) _
  rw [this, gMk k hk]
theorem C_passages (h : CI Z tp bs Q S lim pf pl ot) (hb : BB bs) (hr : (cread bs).1 = none) (qo : QOK Q S) (x : Int32) : (∀ k, x = nI k → 1 ≤ k → k ≤ 9 → ∃ Z', SM Z Z' ∧ zden L (d + 5) 98 [.ref 1, .int x] Z = some (nI (pfA (fch (scrZ bs Q S lim) ((cread bs).2.1 8).length k) (jch (fch (scrZ bs Q S lim) ((cread bs).2.1 8).length k)) ((cread bs).2.1 8).length).length, Z') ∧ CI Z' tp bs Q S lim (pfA (fch (scrZ bs Q S lim) ((cread bs).2.1 8).length k) (jch (fch (scrZ bs Q S lim) ((cread bs).2.1 8).length k)) ((cread bs).2.1 8).length) (plA (fch (scrZ bs Q S lim) ((cread bs).2.1 8).length k) (jch (fch (scrZ bs Q S lim) ((cread bs).2.1 8).length k)) ((cread bs).2.1 8).length) ot) ∧ (x < nI 1 ∨ ¬ x ≤ nI 9 → zden L (d + 5) 98 [.ref 1, .int x] Z = some (-1, Z)) := by
  have h' := h
  obtain ⟨t, t2, q, q2, M, a1, a2, a3, a4, a5, a6, a7, a8, a9, a10, a11, a12⟩ := h'
  have tx := txr hb hr
  have W300 := tx.W300
  have l8 := tx.l8
  have n12 := qo.2.2.1
  refine ⟨fun k hx k1 k9 => ?_, fun hx => ?_⟩
  · subst hx
    obtain ⟨j16, j0, j1, jB, j2, j9, j3, j4, j5, tr, j12, jt⟩ := a9
    have e60 : Z.1 60 = ((List.range ((cread bs).2.1 8).length).map (scrZ bs Q S lim)).map nI := by
      have := putM_get a8 (k := 5) (by omega)
      rw [j5] at this
      exact this
    obtain ⟨c, ec⟩ := zP_self a10 a11
    obtain ⟨c', e2⟩ := x2 (L := L) (d := d) (Z := Z) (c := c) (a := pf) (b := pl) (sc := scrZ bs Q S lim) (k := k) (show ((cread bs).2.1 8).length ≤ 300 by omega) (fun s => by have := scoZ_le (cread bs).2 Q (lvS S (vC (cread bs).2 Q (min lim ((cread bs).2.1 1).length))) (min lim ((cread bs).2.1 1).length) s n12; unfold scrZ; omega) e60 k1 k9
    rw [← ec] at e2
    refine ⟨zP Z c' _ _, ⟨rfl, rfl⟩, ?_, h.rows rfl (fun r r1 r2 r3 r4 _ _ => ?_) ?_ zP_79 zP_81 ?_⟩
    · rw [N98 _ _ ob1, B98_0, iT (by omega) (by omega), if_neg (by omega), B98_5, iL (by omega) (by omega), if_pos k9, B98_13, J1_2, Option.bind_some, J1_1, Option.bind_some, J4_7, Option.bind_some, e2, Option.bind_some, J1_2, Option.bind_some, J78_0, Option.bind_some, N55 rfl, Option.bind_some, zP_79, List.length_map]
    · show (if r = 83 then _ else if r = 79 then _ else if r = 81 then _ else Z.1 r) = _
      rw [if_neg r4, if_neg r2, if_neg r3]
    · exact a6
    · exact a12
  · rw [N98 _ _ ob1, B98_0]
    by_cases c : x < nI 1
    · rw [if_pos c, B98_11]
    · rw [if_neg c, B98_5, if_neg (hx.resolve_left c), B98_11]
theorem zO_self {o : List Nat} (h : Z.1 86 = o.map nI) : ∃ g, Z = zO Z o g := by
  refine ⟨(Z.1 89).map (fun x => x.toBitVec.toNat), Prod.ext (funext fun r => ?_) rfl⟩
  unfold zO
  simp only
  split
  · rename_i e; rw [e, h]
  · split
    · rename_i e; rw [map_nat, e]
    · rfl
theorem C_print (h : CI Z tp bs Q S lim pf pl ot) (hb : BB bs) (hr : (cread bs).1 = none) (qo : QOK Q S) (pc : PLC ((cread bs).2.1 8).length pf pl) (h9 : pf.length ≤ 9) (x : Int32) : ∃ Z', SM Z Z' ∧ zden L (d + 8) 100 [.ref 1, .int x] Z = some (nI (outZ bs Q S lim pf pl x).length, Z') ∧ CI Z' tp bs Q S lim pf pl (outZ bs Q S lim pf pl x) := by
  have h' := h
  obtain ⟨t, t2, q, q2, M, a1, a2, a3, a4, a5, a6, a7, a8, a9, a10, a11, a12⟩ := h'
  obtain ⟨r1, r2, r3, r4, r5, r6⟩ := a5
  obtain ⟨T', pi⟩ := pi_read hr
  obtain ⟨j16, j0, j1, jB, j2, j9, j3, j4, j5, tr, j12, jt⟩ := a9
  have cx : CX Z t bs (cread bs).2 T' (kread bs) (pfZ bs Q S lim) (plZ bs Q S lim) := ⟨r1, r3, r5, by
    have := putM_get a8 (k := 3) (by omega)
    rw [j3] at this
    exact this, by
    have := putM_get a8 (k := 4) (by omega)
    rw [j4] at this
    exact this, hb, txr hb hr, pi, plcZ hb hr qo⟩
  obtain ⟨g, eg⟩ := zO_self a12
  have fin : ∀ (o g : List Nat), CI (zO Z o g) tp bs Q S lim pf pl o := fun o g => h.rows rfl (fun r _ _ _ _ r5 r6 => zO_o r5 r6) a6 a10 a11 zO_86
  by_cases c : x = nI 0
  · obtain ⟨g', e30⟩ := o30 (L := L) (d := d) (o := ot) (g := g) cx a10 a11 pc h9
    rw [← eg] at e30
    have eo : outZ bs Q S lim pf pl x = prtP bs (cread bs).2 (kread bs) (litZ (kread bs) (pfZ bs Q S lim) (plZ bs Q S lim)) pf pl pf.length := if_pos c
    rw [eo]
    refine ⟨zO Z _ g', ⟨rfl, rfl⟩, ?_, fin _ g'⟩
    rw [N100 _ _ ob1, B100_0, if_pos c, B100_18, J1_3, Option.bind_some, J1_1, Option.bind_some, J1_2, Option.bind_some, e30, Option.bind_some, B100_33, J1_3, Option.bind_some, J85_0, Option.bind_some, N55 rfl, Option.bind_some, zO_86, List.length_map]
  · have e29 := o29 (L := L) (d := d) (o := ot) (g := g) cx
    rw [← eg] at e29
    have eo : outZ bs Q S lim pf pl x = putO bs (litZ (kread bs) (pfZ bs Q S lim) (plZ bs Q S lim)) 0 bs.length := if_neg c
    rw [eo]
    refine ⟨zO Z _ (stk bs bs.length), ⟨rfl, rfl⟩, ?_, fin _ (stk bs bs.length)⟩
    rw [N100 _ _ ob1, B100_0, if_neg c, B100_4, J1_3, Option.bind_some, J1_1, Option.bind_some, e29, Option.bind_some, B100_33, J1_3, Option.bind_some, J85_0, Option.bind_some, N55 rfl, Option.bind_some, zO_86, List.length_map]
/-- the calls that only answer -/
theorem C_get (h : CI Z tp bs Q S lim pf pl ot) (hb : BB bs) (hr : (cread bs).1 = none) (qo : QOK Q S) (hl : lim ≤ 300) : zden L (d + 4) 92 [.ref 1] Z = some (bI (tvS S (vC (cread bs).2 Q (min lim ((cread bs).2.1 1).length))), Z) ∧ (∀ x w, zden L (d + 4) 93 [.ref 1, .int x, .int w] Z = some (aWord (cread bs).2 Q S (min lim ((cread bs).2.1 1).length) x w, Z)) ∧ (∀ x w, zden L (d + 4) 94 [.ref 1, .int x, .int w] Z = some (aLet (cread bs).2 x w, Z)) ∧ (∀ x w, zden L (d + 4) 95 [.ref 1, .int x, .int w] Z = some (aSen (cread bs).2 Q S (min lim ((cread bs).2.1 1).length) x w, Z)) ∧ (∀ x w, zden L (d + 4) 96 [.ref 1, .int x, .int w] Z = some (aLeaf (cread bs).2 Q S (min lim ((cread bs).2.1 1).length) x w, Z)) ∧ (∀ x w, zden L (d + 4) 97 [.ref 1, .int x, .int w] Z = some (aPas (pfZ bs Q S lim) (plZ bs Q S lim) x w, Z)) ∧ (∀ x w, zden L (d + 4) 99 [.ref 1, .int x, .int w] Z = some (aPas pf pl x w, Z)) ∧ (∀ x, zden L (d + 4) 101 [.ref 1, .int x] Z = some (zget (ot.map nI) x, Z)) ∧ (∀ x, zden L (d + 4) 102 [.ref 1, .int x] Z = some (aCnt bs Q S lim tp pf ot x, Z)) := by
  obtain ⟨t, t2, q, q2, M, a1, a2, a3, a4, a5, a6, a7, a8, a9, a10, a11, a12⟩ := h
  have tx := txr hb hr
  have W300 := tx.W300
  have to := txt_ok hb hr
  refine ⟨?_, fun x w => ?_, fun x w => ?_, fun x w => ?_, fun x w => ?_, fun x w => ?_, fun x w => c99 a10 a11 x w, fun x => c101 a12 x, fun x => ?_⟩
  · have e := c92 (L := L) (d := d) a5 a9 qo
    rw [← a8] at e
    exact e
  · have e := c93 (L := L) (d := d + 1) a5 a9 x w
    rw [← a8] at e
    exact e
  · have e := c94 (L := L) (d := d + 1) (M := M) a5 x w
    rw [← a8] at e
    exact e
  · have e := c95 (L := L) (d := d) a5 a9 tx to.1.2.1 x w
    rw [← a8] at e
    exact e
  · have e := c96 (L := L) (d := d) a5 a9 (by omega) qo.2.2.1 x w
    rw [← a8] at e
    exact e
  · have e := c97 (L := L) (d := d + 1) (z := Z) (t := t) (q := q) a9 x w
    rw [← a8] at e
    exact e
  · have e := c102 (L := L) (d := d + 1) (z := Z) (t := t) (q := q) (M := M) (tp := tp) (pf := pf) (ot := ot) a5 a9 tx hl (by rw [← a8]; exact a6) (by rw [← a8]; exact a10) (by rw [← a8]; exact a12) (by rw [← a8]; exact a7) x
    rw [← a8] at e
    exact e
end
