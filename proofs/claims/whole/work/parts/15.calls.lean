/-! calls: a contract for each method, room by depth -/
def xrv (mi : Nat) (r : Int32) : Option Value := bif Nat.beq (xry mi) 2 then none else some (.int r)
theorem xrv_pu (mi : Nat) (r : Int32) (rest : List Value) : (xrv mi r).toList ++ rest = xpu (xry mi) r rest := by
  unfold xrv xpu
  cases Nat.beq (xry mi) 2 <;> rfl
def xPc (D : va_G) (cI cZ : ClassId) (base : Nat) (as : List Value) (h : xH) : Array Value → State → Prop := va_Pc as (fun U => xRep D cI cZ base h U U.heap ∧ xKN D cI cZ U)
def xQc (D : va_G) (cI cZ : ClassId) (base mi : Nat) (r : Int32) (h' : xH) : Array Value → State → Outcome → State → Prop := fun _ st o t => o = .returned (xrv mi r) ∧ xRep D cI cZ base h' t t.heap ∧ ∀ q : Nat, q < base → t.heap[q]? = st.heap[q]?
abbrev xrm (d : Nat) (h h' : xH) : Room := { frames := d, cells := h'.2.1 - h.2.1, slots := h'.2.2 - h.2.2, locals := 30 * d }
def xMet (l : Launch) (D : va_G) (cI cZ : ClassId) (base d m : Nat) (as : List Value) (h : xH) (r : Int32) (h' : xH) : Prop :=
  Met l (xY m) (xws m) (xrm d h h') (xPc D cI cZ base as h) (xQc D cI cZ base m r h') (h'.2.1 - h.2.1) (h'.2.2 - h.2.2) (xA base)
theorem xPc_blind {D : va_G} {cI cZ : ClassId} {base : Nat} {as : List Value} {h : xH} : FrameBlind (xPc D cI cZ base as h) := by
  intro a U g mk q
  obtain ⟨q1, q2, q3, q4⟩ := q
  exact ⟨q1, xRep.moved (u := U) (U := U.calling g mk a) (Vm.Alike.refl U.vm) q2, va_K.moved (u := U) (U := U.calling g mk a) (Vm.Alike.refl U.vm) q3, fun a' i y h' hw => va_Nw.same rfl (u := U) (U := U.calling g mk a) rfl (q4 a' i y h' hw)⟩
theorem xRN_ne : ∀ c, c ≤ 9 → xRN c ≠ "java/lang/invoke/MethodHandle" ∧ xRN c ≠ "java/lang/invoke/VarHandle" := by
  intro c hc
  match c, hc with
  | 0, _ => exact (by decide +kernel)
  | 1, _ => exact (by decide +kernel)
  | 2, _ => exact (by decide +kernel)
  | 3, _ => exact (by decide +kernel)
  | 4, _ => exact (by decide +kernel)
  | 5, _ => exact (by decide +kernel)
  | 6, _ => exact (by decide +kernel)
  | 7, _ => exact (by decide +kernel)
  | 8, _ => exact (by decide +kernel)
  | 9, _ => exact (by decide +kernel)
set_option maxRecDepth 100000 in
theorem xoc_all : (List.range 164).all (fun m => Nat.ble (xoc m) 8) = true := by decide +kernel
theorem xmok_of {m : Nat} (h : m ≤ 164) : (xY m).cls = xRN (xoc m) ∧ xmx m ≤ 11 ∧ plainName (xY m).cls = true ∧ (parseMethodDescriptor (xY m).desc).map (fun d => d.parameters.length) = some (xna m) ∧ (xry m = 0 → xrt m = some .int) ∧ (xry m = 1 → xrt m = some .boolean) ∧ (xry m = 2 → xrt m = none) ∧ xna m + (bif xst m then 0 else 1) ≤ xmx m := by
  have h1 := List.all_eq_true.mp xmok_all m (List.mem_range.mpr (Nat.lt_succ_of_le h))
  simp only [xmok, Bool.and_eq_true, beq_iff_eq] at h1
  obtain ⟨⟨⟨⟨⟨a1, a2⟩, a3⟩, a4⟩, a5⟩, a6⟩ := h1
  refine ⟨a1, Nat.le_of_ble_eq_true a2, a3, a4, fun e => ?_, fun e => ?_, fun e => ?_, Nat.le_of_ble_eq_true a6⟩
  · rw [e] at a5; simpa using a5
  · rw [e] at a5; simpa using a5
  · rw [e] at a5; simpa using a5
theorem xhd {m : Nat} (h : m ≤ 163) : (xY m).cls ≠ "java/lang/invoke/MethodHandle" ∧ (xY m).cls ≠ "java/lang/invoke/VarHandle" ∧ (parseMethodDescriptor (xY m).desc).map (fun d => d.parameters.length) = some (xna m) := by
  have h1 := xmok_of (m := m) (by omega)
  have h2 : xoc m ≤ 8 := Nat.le_of_ble_eq_true (List.all_eq_true.mp xoc_all m (List.mem_range.mpr (by omega)))
  have h3 := xRN_ne (xoc m) (by omega)
  rw [h1.1]
  exact ⟨h3.1, h3.2, h1.2.2.2.1⟩
section
variable {p : Program} {l : Launch} {e : Env} {R : Room} {s : State} {m : MethodId} {args : Array Value} {below : List Frame} {meth : Method} {c : Code} {H : Heap} {locs : List Loc} {cells slots : Nat} {Q : State → Prop}
variable {pc : Nat} {arr : Array Slot} {rest st0 : List Value} {D : va_G} {cI cZ : ClassId} {base mi mj j d : Nat} {h h1 : xH} {r1 : Int32} {as : List Value}
theorem x_back (C : xCtx D cI cZ base p s m args meth c mi) (rp : xRep D cI cZ base h s H) (hm1 : h.2.1 ≤ h1.2.1) (hS : va_S (xA base) s.heap H locs) {a : Array Value}
    (hrun : va_Run p l e R s m args below meth c H locs cells slots (h1.2.1 - h.2.1) (h1.2.2 - h.2.2) (F0 m pc arr st0) rest (xQc D cI cZ base mj r1 h1 a) (xA base))
    (kk : ∀ (H1 : Heap) (locs1 : List Loc), xRep D cI cZ base h1 s H1 → va_S (xA base) s.heap H1 locs1 → W p l e R s m args below meth c H1 locs1 (cells + (h1.2.1 - h.2.1)) (slots + (h1.2.2 - h.2.2)) Q (F0 m (pc + 3) arr (xpu (xry mj) r1 rest))) :
    W p l e R s m args below meth c H locs cells slots Q (F0 m pc arr st0) := by
  intro T hT X
  obtain ⟨v, st₀, t, T', L, e0, X', hL, e1, e2, ⟨hv, hr, hfr⟩, stp⟩ := hrun T hT X
  cases hv
  have hal : s.vm.Alike t.vm := by rw [← e2]; exact X'.warmed.alike
  have hr' := hr.moved hal.symm
  have hS1 : va_S (xA base) s.heap T'.heap (locs ++ L) := by
    refine ⟨?_, fun q q1 q2 => ?_, fun q hq => ?_⟩
    · have := hS.1; have := rp.1; have := hr.1; rw [e1]; omega
    · rw [e1, hfr q (Nat.not_le.mp q2), e0]; exact hS.2.1 q q1 q2
    · rcases List.mem_append.mp hq with q1 | q1
      · exact hS.2.2 q q1
      · exact hL q q1
  obtain ⟨t2, a1, b1⟩ := kk T'.heap (locs ++ L) (by rw [e1]; exact hr') hS1 T' rfl X'
  refine ⟨t2, stp t2 ?_, b1⟩
  rw [xrv_pu]
  exact a1
theorem x_pre {as : List Value} (hK : xKN D cI cZ s) (rp : xRep D cI cZ base h s H) : ∀ U : State, U.heap = H → s.WarmedH U.vm → xPc D cI cZ base as h as.toArray U := by
  intro U hU hW
  refine ⟨rfl, ?_, hK.warm hW⟩
  rw [hU]
  exact rp.moved hW.alike
theorem x_callB (C : xCtx D cI cZ base p s m args meth c mi) (hj : mj ≤ 163) (hd : d + 1 ≤ R.frames) (hl : 30 * (d + 1) ≤ R.locals) (hlink : Cond.methodLink (xRN (xoc mi)) j (xY mj) ∈ lw_tbl) :
    CallB R s args (xRN (xoc mi)) j (xY mj) (xB mj) (xmx mj) (xrt mj) (xws mj) (xrm d h h1) (h1.2.1 - h.2.1) (h1.2.2 - h.2.2) (xna mj) := by
  obtain ⟨hx, hb, hml, hown, hts, hini, hK, hbase⟩ := C
  have hm := xmok_of (m := mj) (by omega)
  have h2 : xoc mj ≤ 8 := Nat.le_of_ble_eq_true (List.all_eq_true.mp xoc_all mj (List.mem_range.mpr (by omega)))
  exact callB_of (xna mj) hts (xws_good hj) rfl rfl rfl (by rw [hm.1]; exact hts _ (xTB_in (xiok_of (by omega)) rfl)) (hts _ (xTB_in hlink rfl)) (xhd hj) ⟨hd, by show 8 + (xmx mj + 11) + 30 * d ≤ R.locals; have := hm.2.1; omega⟩
theorem x_callV (C : xCtx D cI cZ base p s m args meth c mi) (rp : xRep D cI cZ base h s H) (hM : xMet l D cI cZ base d mj as h r1 h1) (hrc : xrc O1 mj as h = true) (hm1 : h.2.1 ≤ h1.2.1) (hS : va_S (xA base) s.heap H locs) (hd : d + 1 ≤ R.frames) (hlo : 30 * (d + 1) ≤ R.locals) (hloc : arr.size = xmx mi)
    (hmt : xmt (xoc mi) j = some (0, mj, xna mj)) (hmk : xmtok (xoc mi) j = true) (hlen : as.length = xna mj + 1) (hst : st0 = as.reverse ++ rest) (hgd : xgd rest = true) (hdg : decode (xB mi) pc = .ok (.invokevirtual j, 3)) (hf : cells + (h1.2.1 - h.2.1) ≤ R.cells ∧ slots + (h1.2.2 - h.2.2) ≤ R.slots)
    (kk : ∀ (H1 : Heap) (locs1 : List Loc), xRep D cI cZ base h1 s H1 → va_S (xA base) s.heap H1 locs1 → W p l e R s m args below meth c H1 locs1 (cells + (h1.2.1 - h.2.1)) (slots + (h1.2.2 - h.2.2)) Q (F0 m (pc + 3) arr (xpu (xry mj) r1 rest))) :
    W p l e R s m args below meth c H locs cells slots Q (F0 m pc arr st0) := by
  have C' := C
  obtain ⟨hx, hb, hml, hown, hts, hini, hK, hbase⟩ := C
  simp only [xmtok, hmt, Bool.and_eq_true, beq_iff_eq] at hmk
  obtain ⟨⟨⟨⟨⟨k1, -⟩, k2⟩, k3⟩, k4⟩, k5⟩ := hmk
  have hj : mj ≤ 163 := Nat.le_of_ble_eq_true k1
  have hoc : xoc mj ≤ 8 := Nat.le_of_ble_eq_true (List.all_eq_true.mp xoc_all mj (List.mem_range.mpr (by omega)))
  cases as with
  | nil => simp at hlen
  | cons v As =>
    simp only [xrc, k2, cond_false, Bool.and_eq_true] at hrc
    replace hrc := hrc.2
    cases v with
    | ref b =>
      obtain ⟨fs, hfs⟩ := o1O_some (h := h) hrc
      have hat : va_at D vwCl (b, .inr (xoc mj, fs)) H := by
        rcases rp.2.2 b _ hfs with ⟨-, q⟩ | ⟨-, n, f, q, -⟩
        · exact q
        · cases q
      have hrecv := va_recv hK.1 (va_P.one hat) (xcl_at (xoc mj) hoc) (q0 := 0) rfl
      refine x_back (a := (Value.ref b :: As).toArray) C' rp hm1 hS (va_runV (As := As) (rest := rest) (C := xRN (xoc mj)) ⟨hx, hb, hml, hown, hts⟩ hM ⟨x_callB C' hj hd hlo (xatN_in k3), hts _ (xTB_in (xat_in k4) rfl), hts _ (xTB_in (xat_in k5) rfl)⟩ ⟨xPc_blind, hrecv, x_pre hK rp⟩ rfl ?_ hloc ?_ ?_ hdg hf) kk
      · simpa using hlen
      · rw [hst]; simp
      · show 2 * 0 + _ ≤ 8
        have := xgd_spec hgd
        omega
    | _ => cases hrc
theorem x_callI (C : xCtx D cI cZ base p s m args meth c mi) (rp : xRep D cI cZ base h s H) (hM : xMet l D cI cZ base d mj as h r1 h1) (hrc : xrc O1 mj as h = true) (hm1 : h.2.1 ≤ h1.2.1) (hS : va_S (xA base) s.heap H locs) (hd : d + 1 ≤ R.frames) (hlo : 30 * (d + 1) ≤ R.locals) (hloc : arr.size = xmx mi)
    (hmt : xmt (xoc mi) j = some (2, mj, xna mj)) (hmk : xmtok (xoc mi) j = true) (hlen : as.length = xna mj + 1) (hst : st0 = as.reverse ++ rest) (hgd : xgd rest = true) (hdg : decode (xB mi) pc = .ok (.invokespecial j, 3)) (hf : cells + (h1.2.1 - h.2.1) ≤ R.cells ∧ slots + (h1.2.2 - h.2.2) ≤ R.slots)
    (kk : ∀ (H1 : Heap) (locs1 : List Loc), xRep D cI cZ base h1 s H1 → va_S (xA base) s.heap H1 locs1 → W p l e R s m args below meth c H1 locs1 (cells + (h1.2.1 - h.2.1)) (slots + (h1.2.2 - h.2.2)) Q (F0 m (pc + 3) arr (xpu (xry mj) r1 rest))) :
    W p l e R s m args below meth c H locs cells slots Q (F0 m pc arr st0) := by
  have C' := C
  obtain ⟨hx, hb, hml, hown, hts, hini, hK, hbase⟩ := C
  simp only [xmtok, hmt, Bool.and_eq_true, beq_iff_eq] at hmk
  obtain ⟨⟨⟨⟨⟨⟨k1, -⟩, k2⟩, k6⟩, k7⟩, k3⟩, k4⟩ := hmk
  have hj : mj ≤ 163 := Nat.le_of_ble_eq_true k1
  have hrt : xrt mj = none := (xmok_of (m := mj) (by omega)).2.2.2.2.2.2.1 (Nat.eq_of_beq_eq_true k7)
  have cb := x_callB (h := h) (h1 := h1) C' hj hd hlo (xatN_in k3)
  rw [hrt] at cb
  cases as with
  | nil => simp at hlen
  | cons v As =>
    simp only [xrc, k2, cond_false, Bool.and_eq_true] at hrc
    replace hrc := hrc.2
    cases v with
    | ref b =>
      refine x_back (a := (Value.ref b :: As).toArray) C' rp hm1 hS (va_runI (As := As) (rest := rest) (b := b) ⟨hx, hb, hml, hown, hts⟩ hM ⟨cb, k6, hts _ (xTB_in (xat_in k4) rfl)⟩ ⟨xPc_blind, x_pre hK rp⟩ rfl ?_ hloc ?_ ?_ hdg hf) kk
      · simpa using hlen
      · rw [hst]; simp
      · show 2 * 0 + _ ≤ 8
        have := xgd_spec hgd
        omega
    | _ => cases hrc
theorem x_callS (C : xCtx D cI cZ base p s m args meth c mi) (rp : xRep D cI cZ base h s H) (hM : xMet l D cI cZ base d mj as h r1 h1) (hm1 : h.2.1 ≤ h1.2.1) (hS : va_S (xA base) s.heap H locs) (hd : d + 1 ≤ R.frames) (hlo : 30 * (d + 1) ≤ R.locals) (hloc : arr.size = xmx mi)
    (hmt : xmt (xoc mi) j = some (1, mj, xna mj)) (hmk : xmtok (xoc mi) j = true) (hlen : as.length = xna mj) (hst : st0 = as.reverse ++ rest) (hgd : xgd rest = true) (hdg : decode (xB mi) pc = .ok (.invokestatic j, 3)) (hf : cells + (h1.2.1 - h.2.1) ≤ R.cells ∧ slots + (h1.2.2 - h.2.2) ≤ R.slots)
    (kk : ∀ (H1 : Heap) (locs1 : List Loc), xRep D cI cZ base h1 s H1 → va_S (xA base) s.heap H1 locs1 → W p l e R s m args below meth c H1 locs1 (cells + (h1.2.1 - h.2.1)) (slots + (h1.2.2 - h.2.2)) Q (F0 m (pc + 3) arr (xpu (xry mj) r1 rest))) :
    W p l e R s m args below meth c H locs cells slots Q (F0 m pc arr st0) := by
  have C' := C
  obtain ⟨hx, hb, hml, hown, hts, hini, hK, hbase⟩ := C
  simp only [xmtok, hmt, Bool.and_eq_true] at hmk
  obtain ⟨⟨⟨⟨k1, -⟩, k2⟩, k3⟩, k4⟩ := hmk
  have hj : mj ≤ 163 := Nat.le_of_ble_eq_true k1
  refine x_back (a := as.toArray) C' rp hm1 hS (va_runS (As := as) (rest := rest) ⟨hx, hb, hml, hown, hts⟩ hM ⟨x_callB C' hj hd hlo (xatN_in k3), hts _ (xTB_in (xat_in k4) rfl)⟩ ⟨xPc_blind, x_pre hK rp⟩ rfl hlen hloc hst ?_ hdg hf) kk
  show 2 * 0 + _ ≤ 8
  have := xgd_spec hgd
  omega
theorem x_callN (C : xCtx D cI cZ base p s m args meth c mi) (rp : xRep D cI cZ base h s H) (hM : xMet l D cI cZ base d mj as h r1 h1) (hm1 : h.2.1 ≤ h1.2.1) (hS : va_S (xA base) s.heap H locs) (hd : d + 1 ≤ R.frames) (hlo : 30 * (d + 1) ≤ R.locals) (hloc : arr.size = xmx mi)
    (hmt : xmt (xoc mi) j = some (6, mj, xna mj)) (hmk : xmtok (xoc mi) j = true) (hlen : as.length = xna mj) (hst : st0 = as.reverse ++ rest) (hgd : xgd rest = true) (hdg : decode (xB mi) pc = .ok (.invokestatic j, 3)) (hf : cells + (h1.2.1 - h.2.1) ≤ R.cells ∧ slots + (h1.2.2 - h.2.2) ≤ R.slots)
    (kk : ∀ (H1 : Heap) (locs1 : List Loc), xRep D cI cZ base h1 s H1 → va_S (xA base) s.heap H1 locs1 → W p l e R s m args below meth c H1 locs1 (cells + (h1.2.1 - h.2.1)) (slots + (h1.2.2 - h.2.2)) Q (F0 m (pc + 3) arr (xpu (xry mj) r1 rest))) :
    W p l e R s m args below meth c H locs cells slots Q (F0 m pc arr st0) := by
  have C' := C
  obtain ⟨hx, hb, hml, hown, hts, hini, hK, hbase⟩ := C
  simp only [xmtok, hmt, Bool.and_eq_true] at hmk
  obtain ⟨⟨⟨⟨k1, -⟩, k2⟩, k3⟩, k4⟩ := hmk
  have hj : mj ≤ 163 := Nat.le_of_ble_eq_true k1
  have hm := xmok_of (m := mj) (by omega)
  have h2 : xoc mj ≤ 8 := Nat.le_of_ble_eq_true (List.all_eq_true.mp xoc_all mj (List.mem_range.mpr (by omega)))
  have hcn := va_cnB (R := R) (s := s) (args := args) (own := xRN (xoc mi)) (index := j) (y := xY mj) (host := "HighlightPlaces") (bytes := xB mj) (maxL := xmx mj) (ret := xrt mj) (ws := xws mj) (ws' := xTB) (rm := xrm d h h1) (mc := h1.2.1 - h.2.1) (ms := h1.2.2 - h.2.2) (xna mj) hts (xws_good hj) rfl rfl rfl (hK.2 _ _ _ _ (xatN_in k3)) (by rw [hm.1]; exact hts _ (xTB_in (xiok_of (by omega)) rfl)) (xhd hj) ⟨hd, by show 8 + (xmx mj + 11) + 30 * d ≤ R.locals; have := hm.2.1; omega⟩
  refine x_back (a := as.toArray) C' rp hm1 hS (va_runSN (As := as) (rest := rest) ⟨hx, hb, hml, hown, hts⟩ hM ⟨hcn, hts _ (xTB_in (xat_in k4) rfl), trivial⟩ ⟨xPc_blind, x_pre hK rp⟩ rfl hlen hloc hst ?_ hdg hf) kk
  show 2 * 0 + _ ≤ 8
  have := xgd_spec hgd
  omega
theorem x_obj (C : xCtx D cI cZ base p s m args meth c mi) (hd : 1 ≤ R.frames) (hlo : 30 ≤ R.locals) (hloc : arr.size = xmx mi) {q a : Nat}
    (hmt : xmt (xoc mi) j = some (3, mj, q)) (hmk : xmtok (xoc mi) j = true) (hgd : xgd rest = true) (hdg : decode (xB mi) pc = .ok (.invokespecial j, 3))
    (kk : W p l e R s m args below meth c H locs cells slots Q (F0 m (pc + 3) arr rest)) : W p l e R s m args below meth c H locs cells slots Q (F0 m pc arr (.ref a :: rest)) := by
  obtain ⟨hx, hb, hml, hown, hts, hini, hK, hbase⟩ := C
  simp only [xmtok, hmt] at hmk
  have := xgd_spec hgd
  exact W.objInit hx hb hown (hts _ (xTB_in (xatN_in hmk) rfl)) (hts (.instanceMethod objectInit) (xTB_in (List.mem_of_getElem? (i := 99) rfl) rfl)) (hts (.code objectInit ⟨#[0xb1]⟩ 1 none) (xTB_in (List.mem_of_getElem? (i := 100) rfl) rfl)) rfl (by rw [hml]; exact hloc) rfl hdg hd (by show 2 * 0 + _ + 12 ≤ _; omega) kk
set_option maxRecDepth 100000 in
theorem x_max (C : xCtx D cI cZ base p s m args meth c mi) (hd : 1 ≤ R.frames) (hlo : 30 ≤ R.locals) (hloc : arr.size = xmx mi) (hc : cells ≤ R.cells) (hsl : slots ≤ R.slots) {q : Nat} {x y : Int32}
    (hmt : xmt (xoc mi) j = some (4, mj, q)) (hmk : xmtok (xoc mi) j = true) (hgd : xgd rest = true) (hdg : decode (xB mi) pc = .ok (.invokestatic j, 3))
    (kk : W p l e R s m args below meth c H locs cells slots Q (F0 m (pc + 3) arr (.int (if x < y then y else x) :: rest))) : W p l e R s m args below meth c H locs cells slots Q (F0 m pc arr (.int y :: .int x :: rest)) := by
  obtain ⟨hx, hb, hml, hown, hts, hini, hK, hbase⟩ := C
  simp only [xmtok, hmt] at hmk
  have := xgd_spec hgd
  exact va_mmax hx hb (by rw [hml, hloc]) hown (hts _ (xTB_in (xatN_in hmk) rfl)) (hts _ (xTB_in (List.mem_of_getElem? (i := 573) rfl) rfl)) (hts _ (xTB_in (List.mem_of_getElem? (i := 92) rfl) rfl)) (hts _ (xTB_in (List.mem_of_getElem? (i := 574) rfl) rfl)) hd (by omega) hc hsl hdg kk
set_option maxRecDepth 100000 in
theorem x_min (C : xCtx D cI cZ base p s m args meth c mi) (hd : 1 ≤ R.frames) (hlo : 30 ≤ R.locals) (hloc : arr.size = xmx mi) (hc : cells ≤ R.cells) (hsl : slots ≤ R.slots) {q : Nat} {x y : Int32}
    (hmt : xmt (xoc mi) j = some (5, mj, q)) (hmk : xmtok (xoc mi) j = true) (hgd : xgd rest = true) (hdg : decode (xB mi) pc = .ok (.invokestatic j, 3))
    (kk : W p l e R s m args below meth c H locs cells slots Q (F0 m (pc + 3) arr (.int (if y < x then y else x) :: rest))) : W p l e R s m args below meth c H locs cells slots Q (F0 m pc arr (.int y :: .int x :: rest)) := by
  obtain ⟨hx, hb, hml, hown, hts, hini, hK, hbase⟩ := C
  simp only [xmtok, hmt] at hmk
  have := xgd_spec hgd
  exact va_mmin hx hb (by rw [hml, hloc]) hown (hts _ (xTB_in (xatN_in hmk) rfl)) (hts _ (xTB_in (List.mem_of_getElem? (i := 547) rfl) rfl)) (hts _ (xTB_in (List.mem_of_getElem? (i := 92) rfl) rfl)) (hts _ (xTB_in (List.mem_of_getElem? (i := 548) rfl) rfl)) hd (by omega) hc hsl hdg kk
end
