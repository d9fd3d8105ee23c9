/-! THE MACHINE'S INSTRUCTIONS OVER THE ABSTRACT HEAP -/
def xTB : List Cond := lw_tbl.filter goodWord
theorem xTB_in {w : Cond} (h : w ∈ lw_tbl) (hg : goodWord w = true) : w ∈ xTB := List.mem_filter.mpr ⟨h, hg⟩
def xws (mi : Nat) : List Cond := Cond.code (xY mi) (xB mi) (xmx mi) (xrt mi) :: xTB
theorem xws_good {mi : Nat} (h : mi ≤ 163) : GoodIn xTB (xws mi) := by
  intro w hw
  have h1 : w ∈ xTB := by
    rcases List.mem_cons.mp hw with rfl | h1
    · exact xTB_in (xco h) rfl
    · exact h1
  exact ⟨h1, good_of_word (List.mem_filter.mp h1).2⟩
theorem va_P.one {D : va_G} {cl : List vw_C} {q : Nat × va_E} {H : Heap} (h : va_at D cl q H) : va_P D cl [q] H := by
  intro k x hx
  have hz : k < 1 := (List.getElem?_eq_some_iff.mp hx).1
  rw [show k = 0 by omega] at hx
  cases hx
  exact h
def xty (c k : Nat) : FieldType := (bif Nat.beq c 0 then tyX0 else bif Nat.beq c 1 then tyX1 else bif Nat.beq c 2 then tyX2 else bif Nat.beq c 3 then tyX3 else bif Nat.beq c 4 then tyX4 else bif Nat.beq c 5 then tyX5 else bif Nat.beq c 6 then tyX6 else bif Nat.beq c 7 then tyX7 else tyX8) k
theorem xty_ok : ∀ c, c ≤ 8 → ∀ k, k < xN c → parseFieldDescriptor (xT c k).2.2.1 = some (xty c k) := by
  intro c hc
  match c, hc with
  | 0, _ => exact tyX0_ok
  | 1, _ => exact tyX1_ok
  | 2, _ => exact tyX2_ok
  | 3, _ => exact tyX3_ok
  | 4, _ => exact tyX4_ok
  | 5, _ => exact tyX5_ok
  | 6, _ => exact tyX6_ok
  | 7, _ => exact tyX7_ok
  | 8, _ => exact tyX8_ok
theorem xnm_ok : ∀ c, c ≤ 8 → ∀ a, a < xN c → ∀ b, b < xN c → a ≠ b → (xT c a).2.1 ≠ (xT c b).2.1 := by
  intro c hc
  match c, hc with
  | 0, _ => exact nmX0
  | 1, _ => exact nmX1
  | 2, _ => exact nmX2
  | 3, _ => exact nmX3
  | 4, _ => exact nmX4
  | 5, _ => exact nmX5
  | 6, _ => exact nmX6
  | 7, _ => exact nmX7
  | 8, _ => exact nmX8
set_option maxRecDepth 100000 in
theorem xdf_all : (List.range 9).all (fun c => (List.range (xN c)).all (fun j => decide (defaultValue (xty c j) = vp_V (xdf c) j))) = true := by decide +kernel
theorem xdf_ok {c j : Nat} (hc : c ≤ 8) (hj : j < xN c) : defaultValue (xty c j) = vp_V (xdf c) j :=
  of_decide_eq_true (List.all_eq_true.mp (List.all_eq_true.mp xdf_all c (List.mem_range.mpr (Nat.lt_succ_of_le hc))) j (List.mem_range.mpr hj))
theorem xdecl {c k : Nat} (hc : c ≤ 8) (hk : k < xN c) : (xT c k).1 = xRN c ∧ goodWord (u_lay (xRN c) (xT c) k) = true := by
  have h := List.all_eq_true.mp (List.all_eq_true.mp xdecl_all c (List.mem_range.mpr (Nat.lt_succ_of_le hc))) k (List.mem_range.mpr hk)
  simp only [Bool.and_eq_true, beq_iff_eq] at h
  exact h
theorem xkok_of {c : Nat} (hc : c ≤ 8) : Cond.instantiable (xRN c) (xN c) ∈ lw_tbl ∧ ∀ w ∈ u_ws (xRN c) (xT c) (xN c), w ∈ xTB := by
  have h := List.all_eq_true.mp xkok_all c (List.mem_range.mpr (Nat.lt_succ_of_le hc))
  simp only [xkok, Bool.and_eq_true, decide_eq_true_eq, List.all_eq_true] at h
  refine ⟨h.1, fun w hw => xTB_in (h.2 w hw) ?_⟩
  obtain ⟨k, hk, rfl⟩ := List.mem_map.mp hw
  exact (xdecl hc (List.mem_range.mp hk)).2
theorem xiok_of {c : Nat} (hc : c ≤ 9) : Cond.initialized (xRN c) ∈ lw_tbl := xat_in (List.all_eq_true.mp xiok_all c (List.mem_range.mpr (Nat.lt_succ_of_le hc)))
theorem xguard {c i : Nat} {α : Type} {o : Option α} {q : α} (h : (bif Nat.ble c 9 && Nat.ble i 599 then o else none) = some q) : c ≤ 9 ∧ i < 600 := by
  cases h1 : (Nat.ble c 9 && Nat.ble i 599) with
  | false => rw [h1] at h; cases h
  | true =>
    simp only [Bool.and_eq_true] at h1
    exact ⟨Nat.le_of_ble_eq_true h1.1, Nat.lt_succ_of_le (Nat.le_of_ble_eq_true h1.2)⟩
theorem xfl_ok {c i d k t : Nat} (h : xfl c i = some (d, k, t)) : d ≤ 8 ∧ k < xN d ∧ xft t (xT d k).2.2.1 = true ∧ Cond.fieldLink (xRN c) i (xRN d) (xT d k).2.1 (xT d k).2.2.1 ∈ lw_tbl := by
  obtain ⟨h1, h2⟩ := xguard (c := c) (i := i) h
  have h3 := List.all_eq_true.mp (List.all_eq_true.mp xflok_all c (List.mem_range.mpr (Nat.lt_succ_of_le h1))) i (List.mem_range.mpr h2)
  simp only [xflok, h, Bool.and_eq_true] at h3
  exact ⟨Nat.le_of_ble_eq_true h3.1.1.1, Nat.le_of_ble_eq_true h3.1.1.2, h3.1.2, xatN_in h3.2⟩
theorem xmt_ok {c i : Nat} {q : Nat × Nat × Nat} (h : xmt c i = some q) : xmtok c i = true ∧ c ≤ 9 := by
  obtain ⟨h1, h2⟩ := xguard (c := c) (i := i) h
  exact ⟨List.all_eq_true.mp (List.all_eq_true.mp xmtok_all c (List.mem_range.mpr (Nat.lt_succ_of_le h1))) i (List.mem_range.mpr h2), h1⟩
theorem xcn_ok {c i d : Nat} (h : xcn c i = some d) : d ≤ 8 ∧ Cond.classLink (xRN c) i (xRN d) ∈ lw_tbl := by
  obtain ⟨h1, h2⟩ := xguard (c := c) (i := i) h
  have h3 := List.all_eq_true.mp (List.all_eq_true.mp xcnok_all c (List.mem_range.mpr (Nat.lt_succ_of_le h1))) i (List.mem_range.mpr h2)
  simp only [xcnok, h, Bool.and_eq_true] at h3
  exact ⟨Nat.le_of_ble_eq_true h3.1, xatN_in h3.2⟩
/-- the tables that a walk carries -/
def xKN (D : va_G) (cI cZ : ClassId) (U : State) : Prop := va_K D vwCl [(cI, .int), (cZ, .boolean)] U ∧ ∀ a i y h, Cond.methodLinkNest a i y h ∈ lw_tbl → va_Nw (.methodLinkNest a i y h) U
theorem xKN.warm {D : va_G} {cI cZ : ClassId} {s U : State} (hW : s.WarmedH U.vm) (h : xKN D cI cZ s) : xKN D cI cZ U := ⟨va_K.moved hW.alike h.1, fun a i y g hw => va_Nw.warmM hW (h.2 a i y g hw)⟩
def xCtx (D : va_G) (cI cZ : ClassId) (base : Nat) (p : Program) (s : State) (m : MethodId) (args : Array Value) (meth : Method) (c : Code) (mi : Nat) : Prop :=
  p.tables.exec = Jvm.exec ∧ c.code = xB mi ∧ c.maxLocals = xmx mi ∧ s.vm.findClass (xRN (xoc mi)) = some m.cls ∧ (∀ w ∈ xTB, w.before args s = true) ∧ ((xY mi).name = "<init>" → meth.name = "<init>") ∧ xKN D cI cZ s ∧ base ≤ s.heap.size
abbrev xA (base : Nat) : Nat → Prop := fun q => base ≤ q
section
variable {p : Program} {l : Launch} {e : Env} {R : Room} {s : State} {m : MethodId} {args : Array Value} {below : List Frame} {meth : Method} {c : Code} {H : Heap} {locs : List Loc} {cells slots : Nat} {Q : State → Prop}
variable {pc : Nat} {arr : Array Slot} {rest : List Value} {D : va_G} {cI cZ : ClassId} {base mi j a d k t : Nat} {h : xH}
theorem x_get (C : xCtx D cI cZ base p s m args meth c mi) (r : xRep D cI cZ base h s H) (hf : xfl (xoc mi) j = some (d, k, t)) {fs : List Value} (he : h.1 a = some (.inr (d, fs))) {v : Value} (hv : fs[k]? = some v) (hdg : decode (xB mi) pc = .ok (.getfield j, 3))
    (kk : W p l e R s m args below meth c H locs cells slots Q (F0 m (pc + 3) arr (v :: rest))) : W p l e R s m args below meth c H locs cells slots Q (F0 m pc arr (.ref a :: rest)) := by
  obtain ⟨hx, hb, hml, hown, hts, hini, hK, hbase⟩ := C
  obtain ⟨f1, f2, f3, f4⟩ := xfl_ok hf
  rcases r.2.2 a _ he with ⟨-, hat⟩ | ⟨-, n, f, q, -⟩
  · refine va_get hx hb hts (xkok_of f1).2 hown hK.1 (va_P.one hat) 0 rfl (xcl_at d f1) k f2 (hts _ (xTB_in f4 rfl)) (fun x hx => ?_) hv hdg kk
    rw [(xdecl f1 f2).1] at hx
    exact hx
  · cases q
theorem x_put (C : xCtx D cI cZ base p s m args meth c mi) (r : xRep D cI cZ base h s H) (hf : xfl (xoc mi) j = some (d, k, t)) {fs : List Value} (he : h.1 a = some (.inr (d, fs))) (hl : k < fs.length) {v : Value} (hn : narrow (xty d k) v = v) (hfit : fits (xty d k) v = true)
    (hfin : (xT d k).2.2.2 = true → d = xoc mi ∧ (xY mi).name = "<init>") (hS0 : va_S (xA base) s.heap H locs) (hdg : decode (xB mi) pc = .ok (.putfield j, 3))
    (kk : ∀ (H1 : Heap) (locs1 : List Loc), xRep D cI cZ base (va_up h.1 a (some (.inr (d, fs.set k v))), h.2) s H1 → va_S (xA base) s.heap H1 locs1 → W p l e R s m args below meth c H1 locs1 cells slots Q (F0 m (pc + 3) arr rest)) : W p l e R s m args below meth c H locs cells slots Q (F0 m pc arr (v :: .ref a :: rest)) := by
  obtain ⟨hx, hb, hml, hown, hts, hini, hK, hbase⟩ := C
  obtain ⟨f1, f2, f3, f4⟩ := xfl_ok hf
  have hin := (xkok_of f1).2
  have hc := xcl_at d f1
  have hd := xty_ok d f1 k f2
  rcases r.2.2 a _ he with ⟨hba, hat⟩ | ⟨-, n, f, q, -⟩
  · have hap := va_apart (own := xRN (xoc mi)) hts hin (xty d) (xty_ok d f1) (xnm_ok d f1) hK.1 hc
    obtain ⟨r0, h1, cell, q1, q2, q3, q4⟩ := hat
    have hr : r0 = (xRN d, xT d, xN d) := Option.some.inj (h1.symm.trans hc)
    subst hr
    obtain ⟨hSl, hfc, kC, hkC, hkind⟩ := hK.1.1 d _ hc
    obtain ⟨cf, kf, fi, f, hi, hsl⟩ := hSl k f2
    have hlay := hts _ (hin _ (u_in_lay f2))
    have hlink := hts _ (xTB_in f4 rfl)
    have hst := (u_facts hfc hkC (u_lays hts hin f2) hi).1
    have hi' : s.fieldFound? (xRN d) (xT d k).2.1 (xT d k).2.2.1 = some (cf, kf, fi, f) := by rw [← (xdecl f1 f2).1]; exact hi
    have fin : ∀ (H' : Heap), H'[a]? = some (cell.setSlot f.slot v) → H'.size = H.size → (∀ q, q ≠ a → H'[q]? = H[q]?) → W p l e R s m args below meth c H' (locs ++ [⟨a, f.slot⟩]) cells slots Q (F0 m (pc + 3) arr rest) := by
      intro H' e1 e2 e3
      rw [hsl] at e1 ⊢
      refine kk H' _ (r.upd hba ?_ e2 e3) (hS0.put e2 e3 hba)
      exact ⟨_, hc, t_OB.to (V := updV (vp_V fs) k v) ⟨_, e1, q2, q3, t_set q4 hap f2 v⟩ (fun i _ => vp_updV_set hl v i)⟩
    by_cases hfi : (xT d k).2.2.2 = true
    · unfold u_lay at hlay
      rw [if_pos hfi] at hlay
      obtain ⟨g1, g2⟩ := hfin hfi
      have hcf : m.cls = cf := by
        obtain ⟨_, _, c', _, _, _, -, -, hf', -, -, -, hown2, -⟩ := Cond.laysFinal_spec hlay
        have e1 : c' = cf := by have := hi.symm.trans hf'; simp at this; exact this.1.symm
        rw [(xdecl f1 f2).1, g1] at hown2
        rw [← e1]; exact Option.some.inj (hown.symm.trans hown2)
      have h6 := u_fits hfc hkC hkind (Or.inr hlay) hi hd hn hfit
      exact W.putFinK hx hb hown hlink hi' hst hcf (hini g2) (by rw [q2]; exact h6) q1 q3 (by rw [hsl]; exact k2_hasslot (q4 k f2)) rfl rfl hdg fin
    · unfold u_lay at hlay
      rw [if_neg hfi] at hlay
      have h6 := u_store hfc hkC hkind hlay hi hd hn hfit
      exact W.putK hx hb (f := f) ⟨hown, hlink, ⟨_, _, _, hi'⟩, hst⟩ (by rw [q2]; exact h6) q1 q3 (by rw [hsl]; exact k2_hasslot (q4 k f2)) rfl rfl hdg fin
  · cases q
theorem x_new (C : xCtx D cI cZ base p s m args meth c mi) (r : xRep D cI cZ base h s H) (hf : xcn (xoc mi) j = some d) (hS : va_S (xA base) s.heap H locs) (hcells : cells + 1 ≤ R.cells) (hslots : slots + xN d ≤ R.slots) (hdg : decode (xB mi) pc = .ok (.new j, 3))
    (kk : ∀ (H1 : Heap), xRep D cI cZ base (va_up h.1 h.2.1 (some (.inr (d, xdf d))), h.2.1 + 1, h.2.2 + xN d) s H1 → va_S (xA base) s.heap H1 locs → W p l e R s m args below meth c H1 locs (cells + 1) (slots + xN d) Q (F0 m (pc + 3) arr (.ref h.2.1 :: rest))) : W p l e R s m args below meth c H locs cells slots Q (F0 m pc arr rest) := by
  obtain ⟨hx, hb, hml, hown, hts, hini, hK, hbase⟩ := C
  obtain ⟨f1, f2⟩ := xcn_ok hf
  have hc := xcl_at d f1
  have hKn := hK.1.1 d _ hc
  refine W.newcK hx hb hown (hts _ (xTB_in f2 rfl)) (hts _ (xTB_in (xkok_of f1).1 rfl)) (hts _ (xTB_in (xiok_of (by omega)) rfl)) rfl hdg hcells hslots hKn.2.1 r.1 fun H1 kC hkC e1 z1 o1 => ?_
  refine kk H1 (r.push (z := h.2.2 + xN d) (e := .inr (d, xdf d)) ⟨_, hc, (u_born (xty d) hts (xkok_of f1).2 hKn hkC e1 (xty_ok d f1)).to (fun i hi => xdf_ok f1 hi)⟩ z1 o1) ⟨?_, fun q h1 h2 => ?_, hS.2.2⟩
  · have := hS.1; have := r.1; omega
  · rw [o1 q (by have := hS.1; have := r.1; omega)]
    exact hS.2.1 q h1 h2
theorem x_RA {D : va_G} {U : State} (hK : xKN D cI cZ U) : U.vm.findClass ("[" ++ FieldType.int.toString) = some cI ∧ U.vm.findClass ("[" ++ FieldType.boolean.toString) = some cZ := ⟨(hK.1.2 0 (cI, .int) rfl).2, (hK.1.2 1 (cZ, .boolean) rfl).2⟩
theorem x_AO {D : va_G} {U : State} (hK : xKN D cI cZ U) : ArrOfT U cI .int ∧ ArrOfT U cZ .boolean := ⟨(hK.1.2 0 (cI, .int) rfl).1, (hK.1.2 1 (cZ, .boolean) rfl).1⟩
theorem x_ald (C : xCtx D cI cZ base p s m args meth c mi) (r : xRep D cI cZ base h s H) {n : Nat} {f : Nat → Int32} (ht : t = 0 ∨ t = 2) (he : h.1 a = some (.inl (t, n, f))) {i : Int32} (hin : ¬ (i < 0 ∨ n ≤ i.toNatClampNeg)) (hdg : decode (xB mi) pc = .ok (.iaload, 1))
    (kk : W p l e R s m args below meth c H locs cells slots Q (F0 m (pc + 1) arr (.int (f i.toNatClampNeg) :: rest))) : W p l e R s m args below meth c H locs cells slots Q (F0 m pc arr (.int i :: .ref a :: rest)) := by
  obtain ⟨hx, hb, hml, hown, hts, hini, hK, hbase⟩ := C
  rcases r.2.2 a _ he with ⟨-, hat⟩ | ⟨-, n', f', q, scr, h1, h2, h3, h4, h5⟩
  · have hne : ¬ t = 1 := by omega
    simp only [xtoE, if_neg hne] at hat
    exact va_iald hx hb hK.1 (va_P.one hat) 0 0 rfl rfl hin hdg kk
  · cases q
    have hlt : i.toNatClampNeg < n := Nat.not_le.mp fun q => hin (Or.inr q)
    exact W.iald (v := .int (f i.toNatClampNeg)) hx hb h1 h2 h3 (by rw [h4]; exact hin) (h5 _ hlt) rfl rfl hdg kk
theorem x_zld (C : xCtx D cI cZ base p s m args meth c mi) (r : xRep D cI cZ base h s H) {n : Nat} {f : Nat → Int32} (he : h.1 a = some (.inl (1, n, f))) {i : Int32} (hin : ¬ (i < 0 ∨ n ≤ i.toNatClampNeg)) (hdg : decode (xB mi) pc = .ok (.baload, 1))
    (kk : W p l e R s m args below meth c H locs cells slots Q (F0 m (pc + 1) arr (.int (f i.toNatClampNeg) :: rest))) : W p l e R s m args below meth c H locs cells slots Q (F0 m pc arr (.int i :: .ref a :: rest)) := by
  obtain ⟨hx, hb, hml, hown, hts, hini, hK, hbase⟩ := C
  rcases r.2.2 a _ he with ⟨-, hat⟩ | ⟨-, n', f', q, -⟩
  · exact va_zald hx hb hK.1 (va_P.one hat) 0 1 rfl rfl hin hdg kk
  · cases q
theorem x_len (C : xCtx D cI cZ base p s m args meth c mi) (r : xRep D cI cZ base h s H) {n : Nat} {f : Nat → Int32} (he : h.1 a = some (.inl (t, n, f))) (hdg : decode (xB mi) pc = .ok (.arraylength, 1))
    (kk : W p l e R s m args below meth c H locs cells slots Q (F0 m (pc + 1) arr (.int (Int32.ofNat n) :: rest))) : W p l e R s m args below meth c H locs cells slots Q (F0 m pc arr (.ref a :: rest)) := by
  obtain ⟨hx, hb, hml, hown, hts, hini, hK, hbase⟩ := C
  rcases r.2.2 a _ he with ⟨-, hat⟩ | ⟨-, n', f', q, scr, h1, h2, h3, h4, h5⟩
  · by_cases ht : t = 1
    · simp only [xtoE, if_pos ht] at hat
      exact va_alen hx hb hK.1 (va_P.one hat) 0 1 rfl rfl rfl hdg kk
    · simp only [xtoE, if_neg ht] at hat
      exact va_alen hx hb hK.1 (va_P.one hat) 0 0 rfl rfl rfl hdg kk
  · cases q
    exact W.alen (n := Int32.ofNat n) hx hb h1 h2 (by rw [h4] <;> rfl) rfl rfl hdg kk
theorem x_ast (C : xCtx D cI cZ base p s m args meth c mi) (r : xRep D cI cZ base h s H) {n : Nat} {f : Nat → Int32} (he : h.1 a = some (.inl (0, n, f))) {i x : Int32} (hin : ¬ (i < 0 ∨ n ≤ i.toNatClampNeg)) (hS : va_S (xA base) s.heap H locs) (hdg : decode (xB mi) pc = .ok (.iastore, 1))
    (kk : ∀ (H1 : Heap) (locs1 : List Loc), xRep D cI cZ base (va_up h.1 a (some (.inl (0, n, upd f i.toNatClampNeg x))), h.2) s H1 → va_S (xA base) s.heap H1 locs1 → W p l e R s m args below meth c H1 locs1 cells slots Q (F0 m (pc + 1) arr rest)) : W p l e R s m args below meth c H locs cells slots Q (F0 m pc arr (.int x :: .int i :: .ref a :: rest)) := by
  obtain ⟨hx, hb, hml, hown, hts, hini, hK, hbase⟩ := C
  rcases r.2.2 a _ he with ⟨hba, hat⟩ | ⟨-, n', f', q, -⟩
  · refine W.iast hx hb hat ((x_AO hK).1 n (fun j => .int (f j))) (fun q => by cases q) (by show ¬ (i < 0 ∨ (arrV _ _ _).slots.size ≤ _); rw [arrV_size]; exact hin) rfl rfl hdg fun H1 e1 z oq => ?_
    refine kk H1 _ (r.upd hba ?_ z oq) (hS.put z oq hba)
    show H1[a]? = some (arrV cI n (fun j => .int (upd f i.toNatClampNeg x j)))
    rw [e1]
    show some ((arrV cI n (fun j => .int (f j))).setSlot _ _) = _
    rw [arrV_store]
    congr 2
    funext q
    by_cases hq : q = i.toNatClampNeg <;> simp [updV, upd, hq]
  · cases q
theorem x_zst (C : xCtx D cI cZ base p s m args meth c mi) (r : xRep D cI cZ base h s H) {n : Nat} {f : Nat → Int32} (he : h.1 a = some (.inl (1, n, f))) {i x : Int32} (hx01 : x = 0 ∨ x = 1) (hin : ¬ (i < 0 ∨ n ≤ i.toNatClampNeg)) (hS : va_S (xA base) s.heap H locs) (hdg : decode (xB mi) pc = .ok (.bastore, 1))
    (kk : ∀ (H1 : Heap) (locs1 : List Loc), xRep D cI cZ base (va_up h.1 a (some (.inl (1, n, upd f i.toNatClampNeg x))), h.2) s H1 → va_S (xA base) s.heap H1 locs1 → W p l e R s m args below meth c H1 locs1 cells slots Q (F0 m (pc + 1) arr rest)) : W p l e R s m args below meth c H locs cells slots Q (F0 m pc arr (.int x :: .int i :: .ref a :: rest)) := by
  obtain ⟨hx, hb, hml, hown, hts, hini, hK, hbase⟩ := C
  have hnar : narrow .boolean (.int x) = .int x := by rcases hx01 with rfl | rfl <;> rfl
  rcases r.2.2 a _ he with ⟨hba, hat⟩ | ⟨-, n', f', q, -⟩
  · refine W.zast hx hb hat ((x_AO hK).2 n (fun j => .int (f j))) (fun q => by cases q) (by show ¬ (i < 0 ∨ (arrV _ _ _).slots.size ≤ _); rw [arrV_size]; exact hin) rfl rfl hdg fun H1 e1 z oq => ?_
    refine kk H1 _ (r.upd hba ?_ z oq) (hS.put z oq hba)
    show H1[a]? = some (arrV cZ n (fun j => .int (upd f i.toNatClampNeg x j)))
    rw [e1, hnar]
    show some ((arrV cZ n (fun j => .int (f j))).setSlot _ _) = _
    rw [arrV_store]
    congr 2
    funext q
    by_cases hq : q = i.toNatClampNeg <;> simp [updV, upd, hq]
  · cases q
set_option maxRecDepth 100000 in
theorem xarr_in : Cond.arrayClass .int ∈ lw_tbl ∧ Cond.arrayClass .boolean ∈ lw_tbl := ⟨List.mem_of_getElem? (i := 117) rfl, List.mem_of_getElem? (i := 1116) rfl⟩
theorem x_nwa (C : xCtx D cI cZ base p s m args meth c mi) (r : xRep D cI cZ base h s H) {ty : ArrayType} (hty : (t = 0 ∧ ty = .int) ∨ (t = 1 ∧ ty = .boolean)) {n : Int32} (hn : ¬ (n < 0 ∨ 100000 < n.toNatClampNeg)) (hS : va_S (xA base) s.heap H locs) (hcells : cells + 1 ≤ R.cells) (hslots : slots + n.toNatClampNeg ≤ R.slots) (hdg : decode (xB mi) pc = .ok (.newarray ty, 2))
    (kk : ∀ (H1 : Heap), xRep D cI cZ base (va_up h.1 h.2.1 (some (.inl (t, n.toNatClampNeg, fun _ => 0))), h.2.1 + 1, h.2.2 + n.toNatClampNeg) s H1 → va_S (xA base) s.heap H1 locs → W p l e R s m args below meth c H1 locs (cells + 1) (slots + n.toNatClampNeg) Q (F0 m (pc + 2) arr (.ref h.2.1 :: rest))) : W p l e R s m args below meth c H locs cells slots Q (F0 m pc arr (.int n :: rest)) := by
  obtain ⟨hx, hb, hml, hown, hts, hini, hK, hbase⟩ := C
  have hn1 : ¬ n < 0 := fun q => hn (Or.inl q)
  have hn2 : n.toNatClampNeg ≤ 100000 := Nat.not_lt.mp fun q => hn (Or.inr q)
  have hSS : ∀ H1 : Heap, H1.size = h.2.1 + 1 → (∀ q, q < h.2.1 → H1[q]? = H[q]?) → va_S (xA base) s.heap H1 locs := by
    intro H1 z1 o1
    refine ⟨?_, fun q h1 h2 => ?_, hS.2.2⟩
    · have := hS.1; have := r.1; omega
    · rw [o1 q (by have := hS.1; have := r.1; omega)]
      exact hS.2.1 q h1 h2
  rcases hty with ⟨rfl, rfl⟩ | ⟨rfl, rfl⟩
  · have hac : (Cond.arrayClass (newarray.typeOf .int)).before args s = true := hts _ (xTB_in xarr_in.1 rfl)
    refine va_newaK (atype := .int) hx hb hac rfl hdg rfl hn1 rfl (by show _ * 4 ≤ _; omega) hcells hslots r.1 fun H1 cA e1 z1 o1 hAr hNm => ?_
    have hcA : cA = cI := Option.some.inj (hNm.symm.trans (x_RA hK).1)
    subst hcA
    exact kk H1 (r.push (z := h.2.2 + n.toNatClampNeg) (e := .inl (0, n.toNatClampNeg, fun _ => 0)) e1 z1 o1) (hSS H1 z1 o1)
  · have hac : (Cond.arrayClass (newarray.typeOf .boolean)).before args s = true := hts _ (xTB_in xarr_in.2 rfl)
    refine va_newaK (atype := .boolean) hx hb hac rfl hdg rfl hn1 rfl (by show _ * 1 ≤ _; omega) hcells hslots r.1 fun H1 cA e1 z1 o1 hAr hNm => ?_
    have hcA : cA = cZ := Option.some.inj (hNm.symm.trans (x_RA hK).2)
    subst hcA
    exact kk H1 (r.push (z := h.2.2 + n.toNatClampNeg) (e := .inl (1, n.toNatClampNeg, fun _ => 0)) e1 z1 o1) (hSS H1 z1 o1)
end
