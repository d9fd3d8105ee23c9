/-! the contracts of all methods, and the law's -/
def xle (h h' : xH) : Prop := h.2.1 ≤ h'.2.1 ∧ h.2.2 ≤ h'.2.2
theorem xrun_le1 {cl : Nat → List Value → xH → Option (Int32 × xH)} (hc : ∀ m as h w, cl m as h = some w → xle h w.2) {mi : Nat} : ∀ (n pc : Nat) (ls st : List Value) (h : xH) (q : Int32 × xH), xrun O1 cl mi n pc ls st h = some q → xle h q.2 := by
  intro n
  induction n with
  | zero => intro pc ls st h q e; cases e
  | succ n ih =>
    intro pc ls st h q e
    replace e : xstep O1 cl mi (xrun O1 cl mi n) pc ls st h = some q := e
    rcases xD_step (P := xle h) O1 cl mi pc ls st h ⟨Nat.le_refl _, Nat.le_refl _⟩ (fun a c f v g' hg => by obtain ⟨fs, -, -, rfl⟩ := o1P_some hg; exact ⟨Nat.le_refl _, Nat.le_refl _⟩)
      (fun c w hw => by
        replace hw : o1N h c = some w := hw
        unfold o1N at hw
        cases hb : Nat.ble c 8 with
        | false => rw [hb] at hw; cases hw
        | true => rw [hb] at hw; cases hw; exact ⟨Nat.le_succ _, Nat.le_add_right _ _⟩)
      (fun t n w hw => by
        replace hw : o1A h t n = some w := hw
        unfold o1A at hw
        split at hw
        · cases hw
        · cases hw; exact ⟨Nat.le_succ _, Nat.le_add_right _ _⟩)
      (fun t a i x g' hg => by obtain ⟨nn, f, -, -, rfl⟩ := o1S_some hg; exact ⟨Nat.le_refl _, Nat.le_refl _⟩) (fun m as w hw => hc m as h w hw) with ⟨c, hP, hk⟩ | ⟨pc', ls', st', g', hP, hk⟩
    · exact hP q ((hk _).symm.trans e)
    · have h1 := ih pc' ls' st' g' q ((hk _).symm.trans e)
      exact ⟨Nat.le_trans hP.1 h1.1, Nat.le_trans hP.2 h1.2⟩
def xnp : Nat → Nat → List Value → xH → Option (Option (Int32 × xH)) := fun _ _ _ _ => none
theorem xden_some {d m : Nat} {as : List Value} {h : xH} {q : Int32 × xH} (e : xden O1 xnp (d + 1) m as h = some q) : xrc O1 m as h = true ∧ ∃ n, xrun O1 (xden O1 xnp d) m n 0 (as ++ List.replicate (xmx m - as.length) .null) [] h = some q := by
  replace e : (bif xrc O1 m as h then xruns O1 (xden O1 xnp d) m 0 (as ++ List.replicate (xmx m - as.length) .null) [] h else none) = some q := e
  cases hrc : xrc O1 m as h with
  | false => rw [hrc] at e; cases e
  | true => rw [hrc] at e; exact ⟨rfl, xruns_iff.mp e⟩
theorem xden_le : ∀ (d m : Nat) (as : List Value) (h : xH) (q : Int32 × xH), xden O1 xnp d m as h = some q → xle h q.2 := by
  intro d
  induction d with
  | zero => intro m as h q e; cases e
  | succ d ih =>
    intro m as h q e
    obtain ⟨-, n, hn⟩ := xden_some e
    exact xrun_le1 (fun m as h w hw => ih m as h w hw) n _ _ _ _ _ hn
theorem xden_rc : ∀ (d m : Nat) (as : List Value) (h : xH) (q : Int32 × xH), xden O1 xnp d m as h = some q → xrc O1 m as h = true := by
  intro d m as h q e
  cases d with
  | zero => cases e
  | succ d => exact (xden_some e).1
theorem xnth_app (as : List Value) (n i : Nat) : xnth (as ++ List.replicate n .null) i = if h : i < as.length then as[i] else .null := by
  induction as generalizing i with
  | nil =>
    simp only [List.nil_append, List.length_nil, Nat.not_lt_zero, dite_false]
    induction n generalizing i with
    | zero => rfl
    | succ n ih =>
      cases i with
      | zero => rfl
      | succ i => exact ih i
  | cons v as ih =>
    cases i with
    | zero => simp [xnth]
    | succ i => simp only [List.cons_append, xnth, ih i, List.length_cons, Nat.add_lt_add_iff_right, List.getElem_cons_succ]
theorem xcat_1 : ∀ (as : List Value), xcat as = true → ∀ v ∈ as, v.category = 1 := by
  intro as
  induction as with
  | nil => intro _ v hv; cases hv
  | cons w as ih =>
    intro h v hv
    cases w with
    | int x =>
      rcases List.mem_cons.mp hv with rfl | hv
      · rfl
      · exact ih h v hv
    | ref x =>
      rcases List.mem_cons.mp hv with rfl | hv
      · rfl
      · exact ih h v hv
    | _ => cases h
theorem xargs_mem : ∀ (as : List Value) (k : Nat), (∀ v ∈ as, v.category = 1) → ∀ (i : Nat) (hi : i < as.length), (k + i, as[i]) ∈ lv_args k as := by
  intro as
  induction as with
  | nil => intro k _ i hi; simp at hi
  | cons v as ih =>
    intro k hc i hi
    have hv : ¬ v.category = 2 := by rw [hc v List.mem_cons_self]; omega
    simp only [lv_args, if_neg hv]
    cases i with
    | zero => simp
    | succ i =>
      have h1 := ih (k + 1) (fun w hw => hc w (List.mem_cons_of_mem _ hw)) i (by simpa using hi)
      rw [show k + (i + 1) = k + 1 + i by omega]
      exact List.mem_cons_of_mem _ h1
theorem xsl_len (as : List Value) (hc : ∀ v ∈ as, v.category = 1) : (lg_sl as).length = as.length := by
  induction as with
  | nil => rfl
  | cons v as ih =>
    have hv : ¬ v.category = 2 := by rw [hc v List.mem_cons_self]; omega
    have h1 := ih (fun w hw => hc w (List.mem_cons_of_mem _ hw))
    simp only [lg_sl] at h1 ⊢
    simp only [List.flatMap_cons, if_neg hv, List.length_append, h1, List.length_cons, List.length_nil]
    omega
theorem xLoc_entry {as : List Value} {n : Nat} (hc : xcat as = true) (hn : as.length ≤ n) : xLoc ((lg_sl as ++ List.replicate (n - (lg_sl as).length) Slot.unset).toArray) n (as ++ List.replicate (n - as.length) .null) := by
  have h1 := xcat_1 as hc
  have hl := lv_entry as (n := n) (by rw [xsl_len as h1]; exact hn)
  refine ⟨hl.1, hl.2.1, by simp; omega, fun i v hv hne => ?_⟩
  rw [xnth_app] at hv
  by_cases hi : i < as.length
  · rw [dif_pos hi] at hv
    subst hv
    have h2 := xargs_mem as 0 h1 i hi
    rw [Nat.zero_add] at h2
    exact ⟨h1 _ (List.getElem_mem hi), hl.2.2 _ h2⟩
  · rw [dif_neg hi] at hv
    exact absurd hv.symm hne
set_option maxHeartbeats 4000000 in
set_option maxRecDepth 100000 in
/-- EVERY METHOD KEEPS ITS CONTRACT -/
theorem xsound (l : Launch) (D : va_G) (cI cZ : ClassId) (base : Nat) : ∀ (d m : Nat) (as : List Value) (h : xH) (r : Int32) (h' : xH), xden O1 xnp d m as h = some (r, h') → m ≤ 163 → xMet l D cI cZ base d m as h r h' := by
  intro d
  induction d with
  | zero => intro m as h r h' e; cases e
  | succ d ih =>
    intro m as h r h' e1 hm
    obtain ⟨hrc, n, hn⟩ := xden_some e1
    have hm2 := xmok_of (m := m) (by omega)
    simp only [xrc, Bool.and_eq_true] at hrc
    obtain ⟨⟨hcat, hlen⟩, -⟩ := hrc
    have hlen : as.length ≤ xmx m := Nat.le_of_ble_eq_true hlen
    unfold xMet
    refine Met.ofW (cc := xB m) (maxL := xmx m) (ret := xrt m) (ws' := xTB) hm2.2.2.1 rfl ?_
    intro p e s mm args below meth c s₁ B hml hv
    obtain ⟨rfl, hrep, hK⟩ := hv
    have hx := B.exec
    have hb := B.bytes
    have hr := B.returns
    have hlocks := B.notSynchronized
    have hts : ∀ w ∈ xTB, w.before as.toArray s = true := fun w hw => atoms_spec (ws := xws m) B.pre w (List.mem_cons_of_mem _ hw)
    have hown : s.vm.findClass (xRN (xoc m)) = some mm.cls := by rw [← hm2.1]; exact findClass_of_methodNamed B.named
    have C : xCtx D cI cZ base p s mm as.toArray meth c m := ⟨hx, hb, hml, hown, hts, fun q => (name_of_methodNamed B.named B.method).1.trans q, hK, hrep.2.1⟩
    have hfr : ∀ (H : Heap) (locs : List Loc), va_S (xA base) s.heap H locs → ∀ q : Nat, q < base → H[q]? = s.heap[q]? := fun H locs hS q hq => hS.2.1 q (Nat.lt_of_lt_of_le hq hrep.2.1) (Nat.not_le.mpr hq)
    have key := xcore l (cl := xden O1 xnp d) (d := d) (fun m as h r h' e hm => ih m as h r h' e hm) (fun m as h r h' e => xden_le d m as h (r, h') e) (fun m as h q e => xden_rc d m as h q e) (R := xrm (d + 1) h h') (e := e) (below := below) (Q := MQ below (xQc D cI cZ base m r h') as.toArray s (h'.2.1 - h.2.1) (h'.2.2 - h.2.2) (xA base)) C (Nat.le_refl _) (Nat.le_refl _) (h0 := h) (h' := h') (r := r) (Nat.le_refl _) (Nat.le_refl _)
      (fun pc arr H locs hdg hry rp hS => by
        rcases hry with hry | ⟨hry, hr01⟩
        · have hr' : meth.sig.returnType = some .int := hr.trans (hm2.2.2.2.2.1 hry)
          refine W.iret hx hb hr' (fun t ht hW => ⟨?_, ?_, fun q hq => by rw [ht]; exact hfr H locs hS q hq⟩) hS.2.2 hdg
          · unfold xrv; rw [hry]; rfl
          · rw [ht]; exact rp.moved hW.alike
        · have hr' : meth.sig.returnType = some .boolean := hr.trans (hm2.2.2.2.2.2.1 hry)
          refine W.zret hx hb hr' (by rcases hr01 with rfl | rfl <;> rfl) (fun t ht hW => ⟨?_, ?_, fun q hq => by rw [ht]; exact hfr H locs hS q hq⟩) hS.2.2 hdg
          · unfold xrv; rw [hry]; rfl
          · rw [ht]; exact rp.moved hW.alike)
      (fun pc arr H locs hdg hry rp hS => by
        have hr' : meth.sig.returnType = none := hr.trans (hm2.2.2.2.2.2.2.1 hry)
        refine W.vret hx hb hr' (fun t ht hW => ⟨?_, ?_, fun q hq => by rw [ht]; exact hfr H locs hS q hq⟩) hS.2.2 hdg
        · unfold xrv; rw [hry]; rfl
        · rw [ht]; exact rp.moved hW.alike)
      n 0 _ _ h hn
    have hw := key.2 _ s.heap [] (xLoc_entry hcat hlen) hrep va_S.rf (Nat.le_refl _) (Nat.le_refl _)
    rw [Nat.sub_self, Nat.sub_self] at hw
    rw [lg_entry_eq]
    exact hw
