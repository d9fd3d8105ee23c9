section
variable {p : Program} {l : Launch} {e : Env} {R : Room} {s : State} {m : MethodId} {args : Array Value} {below : List Frame} {meth : Method} {c : Code} {H : Heap} {locs : List Loc} {cells slots : Nat} {Q : State → Prop}
variable {cc : ByteArray} {pc : Nat} {ls : Array Slot} {rest : List Value}
theorem xv_if_eq_n (hexec : p.tables.exec = Jvm.exec) (hb : c.code = cc) {x : Int32} {off : Int} (hdg : decode cc pc = .ok (.ifCond .eq off, 3)) (hc : ¬ x = 0) (k : W p l e R s m args below meth c H locs cells slots Q (F0 m (pc + 3) ls rest)) : W p l e R s m args below meth c H locs cells slots Q (F0 m pc ls (.int x :: rest)) := by
  intro T hT X
  obtain ⟨t, a, b⟩ := k T hT X
  refine ⟨t, ?_, b⟩
  jvm_step X.here [X.here.top, hexec, hb, hdg, Op.ifCond.holds, hc]
  exact a
theorem xv_if_ne_n (hexec : p.tables.exec = Jvm.exec) (hb : c.code = cc) {x : Int32} {off : Int} (hdg : decode cc pc = .ok (.ifCond .ne off, 3)) (hc : x = 0) (k : W p l e R s m args below meth c H locs cells slots Q (F0 m (pc + 3) ls rest)) : W p l e R s m args below meth c H locs cells slots Q (F0 m pc ls (.int x :: rest)) := by
  intro T hT X
  obtain ⟨t, a, b⟩ := k T hT X
  refine ⟨t, ?_, b⟩
  jvm_step X.here [X.here.top, hexec, hb, hdg, Op.ifCond.holds, hc]
  exact a
theorem xv_if_lt_n (hexec : p.tables.exec = Jvm.exec) (hb : c.code = cc) {x : Int32} {off : Int} (hdg : decode cc pc = .ok (.ifCond .lt off, 3)) (hc : ¬ x < 0) (k : W p l e R s m args below meth c H locs cells slots Q (F0 m (pc + 3) ls rest)) : W p l e R s m args below meth c H locs cells slots Q (F0 m pc ls (.int x :: rest)) := by
  intro T hT X
  obtain ⟨t, a, b⟩ := k T hT X
  refine ⟨t, ?_, b⟩
  jvm_step X.here [X.here.top, hexec, hb, hdg, Op.ifCond.holds, hc]
  exact a
theorem xv_if_ge_n (hexec : p.tables.exec = Jvm.exec) (hb : c.code = cc) {x : Int32} {off : Int} (hdg : decode cc pc = .ok (.ifCond .ge off, 3)) (hc : ¬ 0 ≤ x) (k : W p l e R s m args below meth c H locs cells slots Q (F0 m (pc + 3) ls rest)) : W p l e R s m args below meth c H locs cells slots Q (F0 m pc ls (.int x :: rest)) := by
  intro T hT X
  obtain ⟨t, a, b⟩ := k T hT X
  refine ⟨t, ?_, b⟩
  jvm_step X.here [X.here.top, hexec, hb, hdg, Op.ifCond.holds, hc]
  exact a
theorem xv_if_gt_n (hexec : p.tables.exec = Jvm.exec) (hb : c.code = cc) {x : Int32} {off : Int} (hdg : decode cc pc = .ok (.ifCond .gt off, 3)) (hc : ¬ 0 < x) (k : W p l e R s m args below meth c H locs cells slots Q (F0 m (pc + 3) ls rest)) : W p l e R s m args below meth c H locs cells slots Q (F0 m pc ls (.int x :: rest)) := by
  intro T hT X
  obtain ⟨t, a, b⟩ := k T hT X
  refine ⟨t, ?_, b⟩
  jvm_step X.here [X.here.top, hexec, hb, hdg, Op.ifCond.holds, hc]
  exact a
theorem xv_if_le_n (hexec : p.tables.exec = Jvm.exec) (hb : c.code = cc) {x : Int32} {off : Int} (hdg : decode cc pc = .ok (.ifCond .le off, 3)) (hc : ¬ x ≤ 0) (k : W p l e R s m args below meth c H locs cells slots Q (F0 m (pc + 3) ls rest)) : W p l e R s m args below meth c H locs cells slots Q (F0 m pc ls (.int x :: rest)) := by
  intro T hT X
  obtain ⟨t, a, b⟩ := k T hT X
  refine ⟨t, ?_, b⟩
  jvm_step X.here [X.here.top, hexec, hb, hdg, Op.ifCond.holds, hc]
  exact a
theorem xv_icmp_eq_n (hexec : p.tables.exec = Jvm.exec) (hb : c.code = cc) {x y : Int32} {off : Int} (hdg : decode cc pc = .ok (.if_icmp .eq off, 3)) (hc : ¬ x = y) (k : W p l e R s m args below meth c H locs cells slots Q (F0 m (pc + 3) ls rest)) : W p l e R s m args below meth c H locs cells slots Q (F0 m pc ls (.int y :: .int x :: rest)) := by
  intro T hT X
  obtain ⟨t, a, b⟩ := k T hT X
  refine ⟨t, ?_, b⟩
  jvm_step X.here [X.here.top, hexec, hb, hdg, Op.if_icmp.holds, hc]
  exact a
theorem xv_icmp_ne_n (hexec : p.tables.exec = Jvm.exec) (hb : c.code = cc) {x y : Int32} {off : Int} (hdg : decode cc pc = .ok (.if_icmp .ne off, 3)) (hc : x = y) (k : W p l e R s m args below meth c H locs cells slots Q (F0 m (pc + 3) ls rest)) : W p l e R s m args below meth c H locs cells slots Q (F0 m pc ls (.int y :: .int x :: rest)) := by
  intro T hT X
  obtain ⟨t, a, b⟩ := k T hT X
  refine ⟨t, ?_, b⟩
  jvm_step X.here [X.here.top, hexec, hb, hdg, Op.if_icmp.holds, hc]
  exact a
theorem xv_icmp_lt_n (hexec : p.tables.exec = Jvm.exec) (hb : c.code = cc) {x y : Int32} {off : Int} (hdg : decode cc pc = .ok (.if_icmp .lt off, 3)) (hc : ¬ x < y) (k : W p l e R s m args below meth c H locs cells slots Q (F0 m (pc + 3) ls rest)) : W p l e R s m args below meth c H locs cells slots Q (F0 m pc ls (.int y :: .int x :: rest)) := by
  intro T hT X
  obtain ⟨t, a, b⟩ := k T hT X
  refine ⟨t, ?_, b⟩
  jvm_step X.here [X.here.top, hexec, hb, hdg, Op.if_icmp.holds, hc]
  exact a
theorem xv_icmp_ge_n (hexec : p.tables.exec = Jvm.exec) (hb : c.code = cc) {x y : Int32} {off : Int} (hdg : decode cc pc = .ok (.if_icmp .ge off, 3)) (hc : ¬ y ≤ x) (k : W p l e R s m args below meth c H locs cells slots Q (F0 m (pc + 3) ls rest)) : W p l e R s m args below meth c H locs cells slots Q (F0 m pc ls (.int y :: .int x :: rest)) := by
  intro T hT X
  obtain ⟨t, a, b⟩ := k T hT X
  refine ⟨t, ?_, b⟩
  jvm_step X.here [X.here.top, hexec, hb, hdg, Op.if_icmp.holds, hc]
  exact a
theorem xv_icmp_gt_n (hexec : p.tables.exec = Jvm.exec) (hb : c.code = cc) {x y : Int32} {off : Int} (hdg : decode cc pc = .ok (.if_icmp .gt off, 3)) (hc : ¬ y < x) (k : W p l e R s m args below meth c H locs cells slots Q (F0 m (pc + 3) ls rest)) : W p l e R s m args below meth c H locs cells slots Q (F0 m pc ls (.int y :: .int x :: rest)) := by
  intro T hT X
  obtain ⟨t, a, b⟩ := k T hT X
  refine ⟨t, ?_, b⟩
  jvm_step X.here [X.here.top, hexec, hb, hdg, Op.if_icmp.holds, hc]
  exact a
theorem xv_icmp_le_n (hexec : p.tables.exec = Jvm.exec) (hb : c.code = cc) {x y : Int32} {off : Int} (hdg : decode cc pc = .ok (.if_icmp .le off, 3)) (hc : ¬ x ≤ y) (k : W p l e R s m args below meth c H locs cells slots Q (F0 m (pc + 3) ls rest)) : W p l e R s m args below meth c H locs cells slots Q (F0 m pc ls (.int y :: .int x :: rest)) := by
  intro T hT X
  obtain ⟨t, a, b⟩ := k T hT X
  refine ⟨t, ?_, b⟩
  jvm_step X.here [X.here.top, hexec, hb, hdg, Op.if_icmp.holds, hc]
  exact a
end
/-! THE ABSTRACT MACHINE IS SOUND: what it answers, the machine answers -/
theorem xcl_some {Hp : Type} {q : Int32 × Hp} {cl : Nat → List Value → Hp → Option (Int32 × Hp)} {k : xK Hp} {m a npc : Nat} {ls st : List Value} {g : Hp} (h : xcl cl k m a npc ls st g = some q) : ∃ as rr w, st = as.reverse ++ rr ∧ as.length = a ∧ xgd rr = true ∧ cl m as g = some w ∧ k npc ls (xpu (xry m) w.1 rr) w.2 = some q := by
  unfold xcl at h
  split at h
  · next as rr hp =>
    obtain ⟨bs, e1, e2, e3⟩ := xpop_spec hp
    simp only [List.append_nil] at e1
    subst e1
    cases hg : xgd rr with
    | false => rw [hg] at h; cases h
    | true =>
      rw [hg] at h
      obtain ⟨w, h1, h2⟩ := Option.bind_eq_some_iff.mp h
      exact ⟨as, rr, w, e3, e2, hg, h1, h2⟩
  · cases h
set_option maxRecDepth 100000 in
theorem xtle_all : (List.range 10).all (fun c => (List.range 600).all (fun i => match xfl c i with
  | some (_, _, t) => Nat.ble t 2
  | none => true)) = true := by decide +kernel
theorem xtle {c i d k t : Nat} (h : xfl c i = some (d, k, t)) : t ≤ 2 := by
  obtain ⟨h1, h2⟩ := xguard (c := c) (i := i) h
  have h3 := List.all_eq_true.mp (List.all_eq_true.mp xtle_all c (List.mem_range.mpr (Nat.lt_succ_of_le h1))) i (List.mem_range.mpr h2)
  rw [h] at h3
  exact Nat.le_of_ble_eq_true h3
theorem xnar_r {d : String} {ty : FieldType} {b : Nat} (h : xft 2 d = true) (hp : parseFieldDescriptor d = some ty) : narrow ty (.ref b) = .ref b ∧ fits ty (.ref b) = true := by
  simp only [xft, hp] at h
  cases ty <;> first | exact ⟨rfl, rfl⟩ | cases h
theorem xnar_i {d : String} {ty : FieldType} {x : Int32} (h : xft 0 d = true) (hp : parseFieldDescriptor d = some ty) : narrow ty (.int x) = .int x ∧ fits ty (.int x) = true := by
  simp only [xft, beq_iff_eq] at h
  subst h
  have : ty = .int := Option.some.inj (hp.symm.trans (by decide +kernel))
  subst this
  exact ⟨rfl, rfl⟩
theorem xnar_z {d : String} {ty : FieldType} {x : Int32} (hx : x = 0 ∨ x = 1) (h : xft 1 d = true) (hp : parseFieldDescriptor d = some ty) : narrow ty (.int x) = .int x ∧ fits ty (.int x) = true := by
  simp only [xft, beq_iff_eq] at h
  subst h
  have : ty = .boolean := Option.some.inj (hp.symm.trans (by decide +kernel))
  subst this
  rcases hx with rfl | rfl <;> exact ⟨rfl, rfl⟩
theorem xpairs_mem {nL i : Nat} {ls : List Value} {v : Value} (hl : ls.length = nL) (h : xnth ls i = v) (hn : v ≠ .null) : ∃ k : Nat, (xpairs nL ls)[k]? = some (i, v) := by
  have hm : (i, v) ∈ xpairs nL ls := by
    refine List.mem_filter.mpr ⟨List.mem_map.mpr ⟨i, List.mem_range.mpr ?_, by rw [h]⟩, decide_eq_true hn⟩
    rw [← hl]
    exact xnth_lt (by rw [h]; exact hn)
  exact List.getElem?_of_mem hm
set_option maxHeartbeats 8000000 in
set_option maxRecDepth 100000 in
theorem xcore (l : Launch) {cl : Nat → List Value → xH → Option (Int32 × xH)} {D : va_G} {cI cZ : ClassId} {base d : Nat}
    (IH : ∀ m as h r h', cl m as h = some (r, h') → m ≤ 163 → xMet l D cI cZ base d m as h r h')
    (hmono : ∀ m as h r h', cl m as h = some (r, h') → h.2.1 ≤ h'.2.1 ∧ h.2.2 ≤ h'.2.2)
    (hrc : ∀ m as h q, cl m as h = some q → xrc O1 m as h = true)
    {p : Program} {e : Env} {R : Room} {s : State} {m : MethodId} {args : Array Value} {below : List Frame} {meth : Method} {c : Code} {Q : State → Prop} {mi : Nat}
    (C : xCtx D cI cZ base p s m args meth c mi) (hd : d + 1 ≤ R.frames) (hlo : 30 * (d + 1) ≤ R.locals) {h0 h' : xH} {r : Int32} (hcells : h'.2.1 - h0.2.1 ≤ R.cells) (hslots : h'.2.2 - h0.2.2 ≤ R.slots)
    (hri : ∀ (pc : Nat) (arr : Array Slot) (H : Heap) (locs : List Loc), decode (xB mi) pc = .ok (.ireturn, 1) → (xry mi = 0 ∨ (xry mi = 1 ∧ (r = 0 ∨ r = 1))) → xRep D cI cZ base h' s H → va_S (xA base) s.heap H locs → W p l e R s m args below meth c H locs (h'.2.1 - h0.2.1) (h'.2.2 - h0.2.2) Q (F0 m pc arr [.int r]))
    (hrv : ∀ (pc : Nat) (arr : Array Slot) (H : Heap) (locs : List Loc), decode (xB mi) pc = .ok (.return_, 1) → xry mi = 2 → xRep D cI cZ base h' s H → va_S (xA base) s.heap H locs → W p l e R s m args below meth c H locs (h'.2.1 - h0.2.1) (h'.2.2 - h0.2.2) Q (F0 m pc arr [])) :
    ∀ (n pc : Nat) (ls st : List Value) (h : xH), xrun O1 cl mi n pc ls st h = some (r, h') → (h.2.1 ≤ h'.2.1 ∧ h.2.2 ≤ h'.2.2) ∧ ∀ (arr : Array Slot) (H : Heap) (locs : List Loc), xLoc arr (xmx mi) ls → xRep D cI cZ base h s H → va_S (xA base) s.heap H locs → h0.2.1 ≤ h.2.1 → h0.2.2 ≤ h.2.2 →
      W p l e R s m args below meth c H locs (h.2.1 - h0.2.1) (h.2.2 - h0.2.2) Q (F0 m pc arr st) := by
  intro n
  induction n with
  | zero => intro pc ls st h e1; cases e1
  | succ n ih =>
    intro pc ls st h e1
    replace e1 : xstep O1 cl mi (xrun O1 cl mi n) pc ls st h = some (r, h') := e1
    unfold xstep at e1
    cases hcd : xcd mi pc with
    | none => rw [hcd] at e1; cases e1
    | some q =>
      obtain ⟨i, len⟩ := q
      rw [hcd] at e1
      replace e1 : xexec O1 cl mi (xrun O1 cl mi n) i len pc ls st h = some (r, h') := e1
      have hk := xchk_of hcd
      have hsk := xsok_of hcd
      simp only [xchk, hcd, Bool.and_eq_true, decide_eq_true_eq] at hk
      simp only [xsok, hcd] at hsk
      obtain ⟨⟨hwf, hdg⟩, hpk⟩ := hk
      obtain ⟨hx, hb, hml, hown, hts, hini, hK, hbase⟩ := id C
      cases i
      case aload_n j =>
        obtain rfl : len = 1 := Nat.eq_of_beq_eq_true hwf
        obtain ⟨a, hl, e1⟩ := xrf_some e1
        obtain ⟨hm, hw⟩ := ih _ _ _ _ e1
        exact ⟨hm, fun arr H locs L rp hS z1 z2 => lv_aload_n hx hb hdg rfl (L.ref hl) (hw arr H locs L rp hS z1 z2)⟩
      case aload j =>
        obtain rfl : len = 2 := Nat.eq_of_beq_eq_true hwf
        obtain ⟨a, hl, e1⟩ := xrf_some e1
        obtain ⟨hm, hw⟩ := ih _ _ _ _ e1
        exact ⟨hm, fun arr H locs L rp hS z1 z2 => lv_aload hx hb hdg (L.ref hl) (hw arr H locs L rp hS z1 z2)⟩
      case iload_n j =>
        obtain rfl : len = 1 := Nat.eq_of_beq_eq_true hwf
        obtain ⟨a, hl, e1⟩ := xin_some e1
        obtain ⟨hm, hw⟩ := ih _ _ _ _ e1
        exact ⟨hm, fun arr H locs L rp hS z1 z2 => lv_iload_n hx hb hdg rfl (L.int hl) (hw arr H locs L rp hS z1 z2)⟩
      case iload j =>
        obtain rfl : len = 2 := Nat.eq_of_beq_eq_true hwf
        obtain ⟨a, hl, e1⟩ := xin_some e1
        obtain ⟨hm, hw⟩ := ih _ _ _ _ e1
        exact ⟨hm, fun arr H locs L rp hS z1 z2 => lv_iload hx hb hdg (L.int hl) (hw arr H locs L rp hS z1 z2)⟩
      case istore_n j =>
        obtain rfl : len = 1 := Nat.eq_of_beq_eq_true hwf
        obtain ⟨x, rr, rfl, e2⟩ := xi1_some e1
        clear e1
        have e1 := e2
        clear e2
        obtain ⟨hm, hw⟩ := ih _ _ _ _ e1
        exact ⟨hm, fun arr H locs L rp hS z1 z2 => lv_istore_n hx hb hdg rfl L.has (Nat.le_of_ble_eq_true hsk) rfl (fun arr2 hl2 => hw arr2 H locs (L.stored (Nat.le_of_ble_eq_true hsk) rfl hl2) rp hS z1 z2)⟩
      case istore j =>
        obtain rfl : len = 2 := Nat.eq_of_beq_eq_true hwf
        obtain ⟨x, rr, rfl, e2⟩ := xi1_some e1
        clear e1
        have e1 := e2
        clear e2
        obtain ⟨hm, hw⟩ := ih _ _ _ _ e1
        exact ⟨hm, fun arr H locs L rp hS z1 z2 => lv_istore hx hb hdg L.has (Nat.le_of_ble_eq_true hsk) rfl (fun arr2 hl2 => hw arr2 H locs (L.stored (Nat.le_of_ble_eq_true hsk) rfl hl2) rp hS z1 z2)⟩
      case astore_n j =>
        obtain rfl : len = 1 := Nat.eq_of_beq_eq_true hwf
        obtain ⟨x, rr, rfl, e2⟩ := xr1_some e1
        clear e1
        have e1 := e2
        clear e2
        obtain ⟨hm, hw⟩ := ih _ _ _ _ e1
        exact ⟨hm, fun arr H locs L rp hS z1 z2 => lv_astore_n hx hb hdg rfl L.has (Nat.le_of_ble_eq_true hsk) rfl (fun arr2 hl2 => hw arr2 H locs (L.stored (Nat.le_of_ble_eq_true hsk) rfl hl2) rp hS z1 z2)⟩
      case astore j =>
        obtain rfl : len = 2 := Nat.eq_of_beq_eq_true hwf
        obtain ⟨x, rr, rfl, e2⟩ := xr1_some e1
        clear e1
        have e1 := e2
        clear e2
        obtain ⟨hm, hw⟩ := ih _ _ _ _ e1
        exact ⟨hm, fun arr H locs L rp hS z1 z2 => lv_astore hx hb hdg L.has (Nat.le_of_ble_eq_true hsk) rfl (fun arr2 hl2 => hw arr2 H locs (L.stored (Nat.le_of_ble_eq_true hsk) rfl hl2) rp hS z1 z2)⟩
      case iconst v =>
        obtain rfl : len = 1 := Nat.eq_of_beq_eq_true hwf
        obtain ⟨hm, hw⟩ := ih _ _ _ _ e1
        exact ⟨hm, fun arr H locs L rp hS z1 z2 => lv_iconst hx hb hdg (xlit_eq v).symm (hw arr H locs L rp hS z1 z2)⟩
      case bipush v =>
        simp only [xwf, Bool.and_eq_true, decide_eq_true_eq] at hwf
        obtain rfl : len = 2 := Nat.eq_of_beq_eq_true hwf.1.1
        obtain ⟨hm, hw⟩ := ih _ _ _ _ e1
        exact ⟨hm, fun arr H locs L rp hS z1 z2 => lv_bipush hx hb hdg (xlit_8 hwf.1.2 hwf.2) (hw arr H locs L rp hS z1 z2)⟩
      case sipush v =>
        simp only [xwf, Bool.and_eq_true, decide_eq_true_eq] at hwf
        obtain rfl : len = 3 := Nat.eq_of_beq_eq_true hwf.1.1
        obtain ⟨hm, hw⟩ := ih _ _ _ _ e1
        exact ⟨hm, fun arr H locs L rp hS z1 z2 => lv_sipush hx hb hdg (xlit_16 hwf.1.2 hwf.2) (hw arr H locs L rp hS z1 z2)⟩
      case iinc j v =>
        obtain rfl : len = 3 := Nat.eq_of_beq_eq_true hwf
        obtain ⟨x, hl, e1⟩ := xin_some e1
        obtain ⟨hm, hw⟩ := ih _ _ _ _ e1
        refine ⟨hm, fun arr H locs L rp hS z1 z2 => ?_⟩
        obtain ⟨k0, hk0⟩ := xpairs_mem L.2.2.1 hl (by intro q; cases q)
        have hj : j < xmx mi := by rw [← L.2.2.1]; exact xnth_lt (by rw [hl]; intro q; cases q)
        exact lv_iinc (v := x + xlit v) hx hb hdg L.has hk0 (by rw [xlit_eq]) hj rfl (fun arr2 hl2 => hw arr2 H locs (L.stored hj rfl hl2) rp hS z1 z2)
      case iadd =>
        obtain rfl : len = 1 := Nat.eq_of_beq_eq_true hwf
        obtain ⟨x, y, rr, rfl, e2⟩ := xi2_some e1
        clear e1
        have e1 := e2
        clear e2
        obtain ⟨hm, hw⟩ := ih _ _ _ _ e1
        exact ⟨hm, fun arr H locs L rp hS z1 z2 => lv_iadd hx hb hdg (hw arr H locs L rp hS z1 z2)⟩
      case isub =>
        obtain rfl : len = 1 := Nat.eq_of_beq_eq_true hwf
        obtain ⟨x, y, rr, rfl, e2⟩ := xi2_some e1
        clear e1
        have e1 := e2
        clear e2
        obtain ⟨hm, hw⟩ := ih _ _ _ _ e1
        exact ⟨hm, fun arr H locs L rp hS z1 z2 => lv_isub hx hb hdg (hw arr H locs L rp hS z1 z2)⟩
      case imul =>
        obtain rfl : len = 1 := Nat.eq_of_beq_eq_true hwf
        obtain ⟨x, y, rr, rfl, e2⟩ := xi2_some e1
        clear e1
        have e1 := e2
        clear e2
        obtain ⟨hm, hw⟩ := ih _ _ _ _ e1
        exact ⟨hm, fun arr H locs L rp hS z1 z2 => lv_imul hx hb hdg (hw arr H locs L rp hS z1 z2)⟩
      case iand =>
        obtain rfl : len = 1 := Nat.eq_of_beq_eq_true hwf
        obtain ⟨x, y, rr, rfl, e2⟩ := xi2_some e1
        clear e1
        have e1 := e2
        clear e2
        obtain ⟨hm, hw⟩ := ih _ _ _ _ e1
        exact ⟨hm, fun arr H locs L rp hS z1 z2 => lv_iand hx hb hdg (hw arr H locs L rp hS z1 z2)⟩
      case ior =>
        obtain rfl : len = 1 := Nat.eq_of_beq_eq_true hwf
        obtain ⟨x, y, rr, rfl, e2⟩ := xi2_some e1
        clear e1
        have e1 := e2
        clear e2
        obtain ⟨hm, hw⟩ := ih _ _ _ _ e1
        exact ⟨hm, fun arr H locs L rp hS z1 z2 => lv_ior hx hb hdg (hw arr H locs L rp hS z1 z2)⟩
      case ishl =>
        obtain rfl : len = 1 := Nat.eq_of_beq_eq_true hwf
        obtain ⟨x, y, rr, rfl, e2⟩ := xi2_some e1
        clear e1
        have e1 := e2
        clear e2
        obtain ⟨hm, hw⟩ := ih _ _ _ _ e1
        exact ⟨hm, fun arr H locs L rp hS z1 z2 => lv_ishl hx hb hdg (hw arr H locs L rp hS z1 z2)⟩
      case ishr =>
        obtain rfl : len = 1 := Nat.eq_of_beq_eq_true hwf
        obtain ⟨x, y, rr, rfl, e2⟩ := xi2_some e1
        clear e1
        have e1 := e2
        clear e2
        obtain ⟨hm, hw⟩ := ih _ _ _ _ e1
        exact ⟨hm, fun arr H locs L rp hS z1 z2 => lv_ishr hx hb hdg (hw arr H locs L rp hS z1 z2)⟩
      case iushr =>
        obtain rfl : len = 1 := Nat.eq_of_beq_eq_true hwf
        obtain ⟨x, y, rr, rfl, e2⟩ := xi2_some e1
        clear e1
        have e1 := e2
        clear e2
        obtain ⟨hm, hw⟩ := ih _ _ _ _ e1
        exact ⟨hm, fun arr H locs L rp hS z1 z2 => lv_iushr hx hb hdg rfl (hw arr H locs L rp hS z1 z2)⟩
      case idiv =>
        obtain rfl : len = 1 := Nat.eq_of_beq_eq_true hwf
        obtain ⟨x, y, rr, rfl, e2⟩ := xi2_some e1
        clear e1
        have e1 := e2
        clear e2
        split at e1
        · cases e1
        · next hy =>
          obtain ⟨hm, hw⟩ := ih _ _ _ _ e1
          exact ⟨hm, fun arr H locs L rp hS z1 z2 => lv_idiv hx hb hdg hy (hw arr H locs L rp hS z1 z2)⟩
      case irem =>
        obtain rfl : len = 1 := Nat.eq_of_beq_eq_true hwf
        obtain ⟨x, y, rr, rfl, e2⟩ := xi2_some e1
        clear e1
        have e1 := e2
        clear e2
        split at e1
        · cases e1
        · next hy =>
          obtain ⟨hm, hw⟩ := ih _ _ _ _ e1
          exact ⟨hm, fun arr H locs L rp hS z1 z2 => lv_irem hx hb hdg hy (hw arr H locs L rp hS z1 z2)⟩
      case dup =>
        obtain rfl : len = 1 := Nat.eq_of_beq_eq_true hwf
        cases st with
        | nil => cases e1
        | cons v rr =>
          cases v with
          | int x =>
            obtain ⟨hm, hw⟩ := ih _ _ _ _ e1
            exact ⟨hm, fun arr H locs L rp hS z1 z2 => lv_dup hx hb hdg rfl (hw arr H locs L rp hS z1 z2)⟩
          | ref x =>
            obtain ⟨hm, hw⟩ := ih _ _ _ _ e1
            exact ⟨hm, fun arr H locs L rp hS z1 z2 => lv_dup hx hb hdg rfl (hw arr H locs L rp hS z1 z2)⟩
          | _ => cases e1
      case dup2 =>
        obtain rfl : len = 1 := Nat.eq_of_beq_eq_true hwf
        obtain ⟨a, i, rr, rfl, e2⟩ := xri_some e1
        clear e1
        have e1 := e2
        clear e2
        obtain ⟨hm, hw⟩ := ih _ _ _ _ e1
        exact ⟨hm, fun arr H locs L rp hS z1 z2 => lv_dup2_11 hx hb hdg rfl rfl (hw arr H locs L rp hS z1 z2)⟩
      case pop =>
        obtain rfl : len = 1 := Nat.eq_of_beq_eq_true hwf
        obtain ⟨x, rr, rfl, e2⟩ := xi1_some e1
        clear e1
        have e1 := e2
        clear e2
        obtain ⟨hm, hw⟩ := ih _ _ _ _ e1
        exact ⟨hm, fun arr H locs L rp hS z1 z2 => lv_pop hx hb hdg rfl (hw arr H locs L rp hS z1 z2)⟩
      case getfield j =>
        obtain rfl : len = 3 := Nat.eq_of_beq_eq_true hwf
        replace e1 : xgf O1 (xfl (xoc mi) j) (xrun O1 cl mi n) (pc + 3) ls st h = some (r, h') := e1
        cases hf : xfl (xoc mi) j with
        | none => rw [hf] at e1; cases e1
        | some q =>
          obtain ⟨cc, f, t⟩ := q
          rw [hf] at e1
          obtain ⟨a, rr, rfl, e2⟩ := xr1_some e1
          clear e1
          have e1 := e2
          clear e2
          cases hb2 : Nat.beq t 2 with
          | true =>
            rw [hb2] at e1
            obtain ⟨b, g1, e1⟩ := Option.bind_eq_some_iff.mp e1
            obtain ⟨fs, g2, g3⟩ := o1R_some g1
            obtain ⟨hm, hw⟩ := ih _ _ _ _ e1
            exact ⟨hm, fun arr H locs L rp hS z1 z2 => x_get C rp hf g2 g3 hdg (hw arr H locs L rp hS z1 z2)⟩
          | false =>
            rw [hb2] at e1
            obtain ⟨b, g1, e1⟩ := Option.bind_eq_some_iff.mp e1
            obtain ⟨fs, g2, g3⟩ := o1I_some g1
            obtain ⟨hm, hw⟩ := ih _ _ _ _ e1
            exact ⟨hm, fun arr H locs L rp hS z1 z2 => x_get C rp hf g2 g3 hdg (hw arr H locs L rp hS z1 z2)⟩
      case putfield j =>
        obtain rfl : len = 3 := Nat.eq_of_beq_eq_true hwf
        replace e1 : xpf O1 (xfl (xoc mi) j) (xrun O1 cl mi n) (pc + 3) ls st h = some (r, h') := e1
        cases hf : xfl (xoc mi) j with
        | none => rw [hf] at e1; cases e1
        | some q =>
          obtain ⟨cc, f, t⟩ := q
          rw [hf] at e1
          simp only [hf] at hpk
          obtain ⟨f1, f2, f3, -⟩ := xfl_ok hf
          have f4 := xty_ok cc f1 f f2
          have f5 := xtle hf
          have hfin : (xT cc f).2.2.2 = true → cc = xoc mi ∧ (xY mi).name = "<init>" := by
            intro hT
            rw [hT] at hpk
            simp only [cond_true, Bool.and_eq_true, beq_iff_eq] at hpk
            exact ⟨Nat.eq_of_beq_eq_true hpk.1, hpk.2⟩
          replace e1 : (bif Nat.beq t 2 then (xrr st fun a b r => (o1P h a cc f (.ref b)).bind fun g' => xrun O1 cl mi n (pc + 3) ls r g') else bif Nat.beq t 1 then (xri st fun a x r => if x = 0 ∨ x = 1 then (o1P h a cc f (.int x)).bind fun g' => xrun O1 cl mi n (pc + 3) ls r g' else none) else (xri st fun a x r => (o1P h a cc f (.int x)).bind fun g' => xrun O1 cl mi n (pc + 3) ls r g')) = some (r, h') := e1
          cases hb2 : Nat.beq t 2 with
          | true =>
            obtain rfl : t = 2 := Nat.eq_of_beq_eq_true hb2
            rw [hb2] at e1
            obtain ⟨a, b, rr, rfl, e2⟩ := xrr_some e1
            clear e1
            have e1 := e2
            clear e2
            obtain ⟨hg, g1, e1⟩ := Option.bind_eq_some_iff.mp e1
            obtain ⟨fs, g2, g3, rfl⟩ := o1P_some g1
            obtain ⟨hm, hw⟩ := ih _ _ _ _ e1
            have hnf := xnar_r (b := b) f3 f4
            exact ⟨hm, fun arr H locs L rp hS z1 z2 => x_put C rp hf g2 g3 hnf.1 hnf.2 hfin hS hdg (fun H1 locs1 rp1 hS1 => hw arr H1 locs1 L rp1 hS1 z1 z2)⟩
          | false =>
            rw [hb2] at e1
            cases hb1 : Nat.beq t 1 with
            | true =>
              obtain rfl : t = 1 := Nat.eq_of_beq_eq_true hb1
              rw [hb1] at e1
              obtain ⟨a, x, rr, rfl, e2⟩ := xri_some e1
              clear e1
              have e1 := e2
              clear e2
              split at e1
              · next hx01 =>
                obtain ⟨hg, g1, e1⟩ := Option.bind_eq_some_iff.mp e1
                obtain ⟨fs, g2, g3, rfl⟩ := o1P_some g1
                obtain ⟨hm, hw⟩ := ih _ _ _ _ e1
                have hnf := xnar_z hx01 f3 f4
                exact ⟨hm, fun arr H locs L rp hS z1 z2 => x_put C rp hf g2 g3 hnf.1 hnf.2 hfin hS hdg (fun H1 locs1 rp1 hS1 => hw arr H1 locs1 L rp1 hS1 z1 z2)⟩
              · cases e1
            | false =>
              rw [hb1] at e1
              obtain ⟨a, x, rr, rfl, e2⟩ := xri_some e1
              clear e1
              have e1 := e2
              clear e2
              obtain rfl : t = 0 := by
                rcases (show t = 0 ∨ t = 1 ∨ t = 2 by omega) with q | q | q
                · exact q
                · rw [q] at hb1; cases hb1
                · rw [q] at hb2; cases hb2
              obtain ⟨hg, g1, e1⟩ := Option.bind_eq_some_iff.mp e1
              obtain ⟨fs, g2, g3, rfl⟩ := o1P_some g1
              obtain ⟨hm, hw⟩ := ih _ _ _ _ e1
              have hnf := xnar_i (x := x) f3 f4
              exact ⟨hm, fun arr H locs L rp hS z1 z2 => x_put C rp hf g2 g3 hnf.1 hnf.2 hfin hS hdg (fun H1 locs1 rp1 hS1 => hw arr H1 locs1 L rp1 hS1 z1 z2)⟩
      case invokevirtual j =>
        obtain rfl : len = 3 := Nat.eq_of_beq_eq_true hwf
        replace e1 : xiv cl (xmt (xoc mi) j) (xrun O1 cl mi n) (pc + 3) ls st h = some (r, h') := e1
        cases hmt : xmt (xoc mi) j with
        | none => rw [hmt] at e1; cases e1
        | some q =>
          obtain ⟨t, mj, q⟩ := q
          rw [hmt] at e1
          have hmk := (xmt_ok hmt).1
          cases hb0 : Nat.beq t 0 with
          | false => simp only [xiv, hb0, cond_false] at e1; cases e1
          | true =>
            simp only [xiv, hb0, cond_true] at e1
            obtain rfl : t = 0 := Nat.eq_of_beq_eq_true hb0
            obtain rfl : q = xna mj := by
              have hq := hmk
              simp only [xmtok, hmt, Bool.and_eq_true] at hq
              exact Nat.eq_of_beq_eq_true hq.1.1.1.1.2
            obtain ⟨as, rr, w, rfl, hlen, hgd, g1, e2⟩ := xcl_some e1
            clear e1
            have e1 := e2
            clear e2
            obtain ⟨w1, w2⟩ := w
            obtain ⟨hm, hw⟩ := ih _ _ _ _ e1
            have hmm := hmono _ _ _ _ _ g1
            simp only at hm hw hmm
            refine ⟨⟨by omega, by omega⟩, fun arr H locs L rp hS z1 z2 => ?_⟩
            have hj : mj ≤ 163 := by
              have hq := hmk
              simp only [xmtok, hmt, Bool.and_eq_true] at hq
              exact Nat.le_of_ble_eq_true hq.1.1.1.1.1
            refine x_callV C rp (IH _ _ _ _ _ g1 hj) (hrc _ _ _ _ g1) hmm.1 hS hd hlo L.1 hmt hmk hlen rfl hgd hdg ⟨by omega, by omega⟩ (fun H1 locs1 rp1 hS1 => ?_)
            have hw2 := hw arr H1 locs1 L rp1 hS1 (by omega) (by omega)
            rw [show h.2.1 - h0.2.1 + (w2.2.1 - h.2.1) = w2.2.1 - h0.2.1 by omega, show h.2.2 - h0.2.2 + (w2.2.2 - h.2.2) = w2.2.2 - h0.2.2 by omega]
            exact hw2
      case invokespecial j =>
        obtain rfl : len = 3 := Nat.eq_of_beq_eq_true hwf
        replace e1 : xip cl (xmt (xoc mi) j) (xrun O1 cl mi n) (pc + 3) ls st h = some (r, h') := e1
        cases hmt : xmt (xoc mi) j with
        | none => rw [hmt] at e1; cases e1
        | some q =>
          obtain ⟨t, mj, q⟩ := q
          rw [hmt] at e1
          have hmk := (xmt_ok hmt).1
          cases hb3 : Nat.beq t 3 with
          | true =>
            simp only [xip, hb3, cond_true] at e1
            obtain rfl : t = 3 := Nat.eq_of_beq_eq_true hb3
            obtain ⟨a, rr, rfl, e2⟩ := xr1_some e1
            clear e1
            have e1 := e2
            clear e2
            cases hgd : xgd rr with
            | false => rw [hgd] at e1; cases e1
            | true =>
              rw [hgd] at e1
              obtain ⟨hm, hw⟩ := ih _ _ _ _ e1
              exact ⟨hm, fun arr H locs L rp hS z1 z2 => x_obj C (by omega) (by omega) L.1 hmt hmk hgd hdg (hw arr H locs L rp hS z1 z2)⟩
          | false =>
            cases hb2 : Nat.beq t 2 with
            | false => simp only [xip, hb3, hb2, cond_false] at e1; cases e1
            | true =>
              simp only [xip, hb3, hb2, cond_true, cond_false] at e1
              obtain rfl : t = 2 := Nat.eq_of_beq_eq_true hb2
              obtain rfl : q = xna mj := by
                have hq := hmk
                simp only [xmtok, hmt, Bool.and_eq_true] at hq
                exact Nat.eq_of_beq_eq_true hq.1.1.1.1.1.2
              obtain ⟨as, rr, w, rfl, hlen, hgd, g1, e2⟩ := xcl_some e1
              clear e1
              have e1 := e2
              clear e2
              obtain ⟨w1, w2⟩ := w
              obtain ⟨hm, hw⟩ := ih _ _ _ _ e1
              have hmm := hmono _ _ _ _ _ g1
              simp only at hm hw hmm
              refine ⟨⟨by omega, by omega⟩, fun arr H locs L rp hS z1 z2 => ?_⟩
              have hj : mj ≤ 163 := by
                have hq := hmk
                simp only [xmtok, hmt, Bool.and_eq_true] at hq
                exact Nat.le_of_ble_eq_true hq.1.1.1.1.1.1
              refine x_callI C rp (IH _ _ _ _ _ g1 hj) (hrc _ _ _ _ g1) hmm.1 hS hd hlo L.1 hmt hmk hlen rfl hgd hdg ⟨by omega, by omega⟩ (fun H1 locs1 rp1 hS1 => ?_)
              have hw2 := hw arr H1 locs1 L rp1 hS1 (by omega) (by omega)
              rw [show h.2.1 - h0.2.1 + (w2.2.1 - h.2.1) = w2.2.1 - h0.2.1 by omega, show h.2.2 - h0.2.2 + (w2.2.2 - h.2.2) = w2.2.2 - h0.2.2 by omega]
              exact hw2
      case invokestatic j =>
        obtain rfl : len = 3 := Nat.eq_of_beq_eq_true hwf
        replace e1 : xis cl (xmt (xoc mi) j) (xrun O1 cl mi n) (pc + 3) ls st h = some (r, h') := e1
        cases hmt : xmt (xoc mi) j with
        | none => rw [hmt] at e1; cases e1
        | some q =>
          obtain ⟨t, mj, q⟩ := q
          rw [hmt] at e1
          have hmk := (xmt_ok hmt).1
          cases hb4 : Nat.beq t 4 with
          | true =>
            simp only [xis, hb4, cond_true] at e1
            obtain rfl : t = 4 := Nat.eq_of_beq_eq_true hb4
            obtain ⟨x, y, rr, rfl, e2⟩ := xi2_some e1
            clear e1
            have e1 := e2
            clear e2
            cases hgd : xgd rr with
            | false => rw [hgd] at e1; cases e1
            | true =>
              rw [hgd] at e1
              obtain ⟨hm, hw⟩ := ih _ _ _ _ e1
              exact ⟨hm, fun arr H locs L rp hS z1 z2 => x_max C (by omega) (by omega) L.1 (by omega) (by omega) hmt hmk hgd hdg (hw arr H locs L rp hS z1 z2)⟩
          | false =>
            cases hb5 : Nat.beq t 5 with
            | true =>
              simp only [xis, hb4, hb5, cond_true, cond_false] at e1
              obtain rfl : t = 5 := Nat.eq_of_beq_eq_true hb5
              obtain ⟨x, y, rr, rfl, e2⟩ := xi2_some e1
              clear e1
              have e1 := e2
              clear e2
              cases hgd : xgd rr with
              | false => rw [hgd] at e1; cases e1
              | true =>
                rw [hgd] at e1
                obtain ⟨hm, hw⟩ := ih _ _ _ _ e1
                exact ⟨hm, fun arr H locs L rp hS z1 z2 => x_min C (by omega) (by omega) L.1 (by omega) (by omega) hmt hmk hgd hdg (hw arr H locs L rp hS z1 z2)⟩
            | false =>
              cases hb1 : Nat.beq t 1 with
              | true =>
                simp only [xis, hb4, hb5, hb1, cond_true, cond_false] at e1
                obtain rfl : t = 1 := Nat.eq_of_beq_eq_true hb1
                obtain rfl : q = xna mj := by
                  have hq := hmk
                  simp only [xmtok, hmt, Bool.and_eq_true] at hq
                  exact Nat.eq_of_beq_eq_true hq.1.1.1.2
                obtain ⟨as, rr, w, rfl, hlen, hgd, g1, e2⟩ := xcl_some e1
                clear e1
                have e1 := e2
                clear e2
                obtain ⟨w1, w2⟩ := w
                obtain ⟨hm, hw⟩ := ih _ _ _ _ e1
                have hmm := hmono _ _ _ _ _ g1
                simp only at hm hw hmm
                refine ⟨⟨by omega, by omega⟩, fun arr H locs L rp hS z1 z2 => ?_⟩
                have hj : mj ≤ 163 := by
                  have hq := hmk
                  simp only [xmtok, hmt, Bool.and_eq_true] at hq
                  exact Nat.le_of_ble_eq_true hq.1.1.1.1
                refine x_callS C rp (IH _ _ _ _ _ g1 hj) hmm.1 hS hd hlo L.1 hmt hmk hlen rfl hgd hdg ⟨by omega, by omega⟩ (fun H1 locs1 rp1 hS1 => ?_)
                have hw2 := hw arr H1 locs1 L rp1 hS1 (by omega) (by omega)
                rw [show h.2.1 - h0.2.1 + (w2.2.1 - h.2.1) = w2.2.1 - h0.2.1 by omega, show h.2.2 - h0.2.2 + (w2.2.2 - h.2.2) = w2.2.2 - h0.2.2 by omega]
                exact hw2
              | false =>
                cases hb6 : Nat.beq t 6 with
                | false => simp only [xis, hb4, hb5, hb1, hb6, cond_false] at e1; cases e1
                | true =>
                  simp only [xis, hb4, hb5, hb1, hb6, cond_true, cond_false] at e1
                  obtain rfl : t = 6 := Nat.eq_of_beq_eq_true hb6
                  obtain rfl : q = xna mj := by
                    have hq := hmk
                    simp only [xmtok, hmt, Bool.and_eq_true] at hq
                    exact Nat.eq_of_beq_eq_true hq.1.1.1.2
                  obtain ⟨as, rr, w, rfl, hlen, hgd, g1, e2⟩ := xcl_some e1
                  clear e1
                  have e1 := e2
                  clear e2
                  obtain ⟨w1, w2⟩ := w
                  obtain ⟨hm, hw⟩ := ih _ _ _ _ e1
                  have hmm := hmono _ _ _ _ _ g1
                  simp only at hm hw hmm
                  refine ⟨⟨by omega, by omega⟩, fun arr H locs L rp hS z1 z2 => ?_⟩
                  have hj : mj ≤ 163 := by
                    have hq := hmk
                    simp only [xmtok, hmt, Bool.and_eq_true] at hq
                    exact Nat.le_of_ble_eq_true hq.1.1.1.1
                  refine x_callN C rp (IH _ _ _ _ _ g1 hj) hmm.1 hS hd hlo L.1 hmt hmk hlen rfl hgd hdg ⟨by omega, by omega⟩ (fun H1 locs1 rp1 hS1 => ?_)
                  have hw2 := hw arr H1 locs1 L rp1 hS1 (by omega) (by omega)
                  rw [show h.2.1 - h0.2.1 + (w2.2.1 - h.2.1) = w2.2.1 - h0.2.1 by omega, show h.2.2 - h0.2.2 + (w2.2.2 - h.2.2) = w2.2.2 - h0.2.2 by omega]
                  exact hw2
      case new j =>
        obtain rfl : len = 3 := Nat.eq_of_beq_eq_true hwf
        obtain ⟨cc, hf, e1⟩ := Option.bind_eq_some_iff.mp e1
        obtain ⟨w, g1, e1⟩ := Option.bind_eq_some_iff.mp e1
        replace g1 : o1N h cc = some w := g1
        unfold o1N at g1
        rw [show Nat.ble cc 8 = true from Nat.ble_eq_true_of_le (xcn_ok hf).1] at g1
        cases g1
        obtain ⟨hm, hw⟩ := ih _ _ _ _ e1
        simp only at hm hw
        refine ⟨⟨by omega, by omega⟩, fun arr H locs L rp hS z1 z2 => ?_⟩
        refine x_new C rp hf hS (by omega) (by omega) hdg (fun H1 rp1 hS1 => ?_)
        have hw2 := hw arr H1 locs L rp1 hS1 (by omega) (by omega)
        rw [show h.2.1 - h0.2.1 + 1 = h.2.1 + 1 - h0.2.1 by omega, show h.2.2 - h0.2.2 + xN cc = h.2.2 + xN cc - h0.2.2 by omega]
        exact hw2
      case newarray ty =>
        obtain rfl : len = 2 := Nat.eq_of_beq_eq_true hwf
        replace e1 : xna1 O1 ty (xrun O1 cl mi n) (pc + 2) ls st h = some (r, h') := e1
        cases ty
        case int =>
          obtain ⟨x, rr, rfl, e2⟩ := xi1_some e1
          clear e1
          have e1 := e2
          clear e2
          obtain ⟨w, g1, e1⟩ := Option.bind_eq_some_iff.mp e1
          replace g1 : o1A h 0 x = some w := g1
          unfold o1A at g1
          split at g1
          · cases g1
          · next hn =>
            cases g1
            obtain ⟨hm, hw⟩ := ih _ _ _ _ e1
            simp only at hm hw
            refine ⟨⟨by omega, by omega⟩, fun arr H locs L rp hS z1 z2 => ?_⟩
            refine x_nwa (t := 0) C rp (Or.inl ⟨rfl, rfl⟩) hn hS (by omega) (by omega) hdg (fun H1 rp1 hS1 => ?_)
            have hw2 := hw arr H1 locs L rp1 hS1 (by omega) (by omega)
            rw [show h.2.1 - h0.2.1 + 1 = h.2.1 + 1 - h0.2.1 by omega, show h.2.2 - h0.2.2 + x.toNatClampNeg = h.2.2 + x.toNatClampNeg - h0.2.2 by omega]
            exact hw2
        case boolean =>
          obtain ⟨x, rr, rfl, e2⟩ := xi1_some e1
          clear e1
          have e1 := e2
          clear e2
          obtain ⟨w, g1, e1⟩ := Option.bind_eq_some_iff.mp e1
          replace g1 : o1A h 1 x = some w := g1
          unfold o1A at g1
          split at g1
          · cases g1
          · next hn =>
            cases g1
            obtain ⟨hm, hw⟩ := ih _ _ _ _ e1
            simp only at hm hw
            refine ⟨⟨by omega, by omega⟩, fun arr H locs L rp hS z1 z2 => ?_⟩
            refine x_nwa (t := 1) C rp (Or.inr ⟨rfl, rfl⟩) hn hS (by omega) (by omega) hdg (fun H1 rp1 hS1 => ?_)
            have hw2 := hw arr H1 locs L rp1 hS1 (by omega) (by omega)
            rw [show h.2.1 - h0.2.1 + 1 = h.2.1 + 1 - h0.2.1 by omega, show h.2.2 - h0.2.2 + x.toNatClampNeg = h.2.2 + x.toNatClampNeg - h0.2.2 by omega]
            exact hw2
        all_goals cases e1
      case iaload =>
        obtain rfl : len = 1 := Nat.eq_of_beq_eq_true hwf
        obtain ⟨a, i, rr, rfl, e2⟩ := xri_some e1
        clear e1
        have e1 := e2
        clear e2
        obtain ⟨x, g1, e1⟩ := Option.bind_eq_some_iff.mp e1
        obtain ⟨t, nn, f, g2, g3, g4, rfl⟩ := o1L_some g1
        obtain ⟨hm, hw⟩ := ih _ _ _ _ e1
        exact ⟨hm, fun arr H locs L rp hS z1 z2 => x_ald C rp (by omega) g2 g4 hdg (hw arr H locs L rp hS z1 z2)⟩
      case baload =>
        obtain rfl : len = 1 := Nat.eq_of_beq_eq_true hwf
        obtain ⟨a, i, rr, rfl, e2⟩ := xri_some e1
        clear e1
        have e1 := e2
        clear e2
        obtain ⟨x, g1, e1⟩ := Option.bind_eq_some_iff.mp e1
        obtain ⟨t, nn, f, g2, g3, g4, rfl⟩ := o1L_some g1
        obtain rfl : t = 1 := by omega
        obtain ⟨hm, hw⟩ := ih _ _ _ _ e1
        exact ⟨hm, fun arr H locs L rp hS z1 z2 => x_zld C rp g2 g4 hdg (hw arr H locs L rp hS z1 z2)⟩
      case iastore =>
        obtain rfl : len = 1 := Nat.eq_of_beq_eq_true hwf
        obtain ⟨a, i, x, rr, rfl, e2⟩ := xrii_some e1
        clear e1
        have e1 := e2
        clear e2
        obtain ⟨hg, g1, e1⟩ := Option.bind_eq_some_iff.mp e1
        obtain ⟨nn, f, g2, g4, rfl⟩ := o1S_some g1
        obtain ⟨hm, hw⟩ := ih _ _ _ _ e1
        exact ⟨hm, fun arr H locs L rp hS z1 z2 => x_ast C rp g2 g4 hS hdg (fun H1 locs1 rp1 hS1 => hw arr H1 locs1 L rp1 hS1 z1 z2)⟩
      case bastore =>
        obtain rfl : len = 1 := Nat.eq_of_beq_eq_true hwf
        obtain ⟨a, i, x, rr, rfl, e2⟩ := xrii_some e1
        clear e1
        have e1 := e2
        clear e2
        split at e1
        · next hx01 =>
          obtain ⟨hg, g1, e1⟩ := Option.bind_eq_some_iff.mp e1
          obtain ⟨nn, f, g2, g4, rfl⟩ := o1S_some g1
          obtain ⟨hm, hw⟩ := ih _ _ _ _ e1
          exact ⟨hm, fun arr H locs L rp hS z1 z2 => x_zst C rp g2 hx01 g4 hS hdg (fun H1 locs1 rp1 hS1 => hw arr H1 locs1 L rp1 hS1 z1 z2)⟩
        · cases e1
      case arraylength =>
        obtain rfl : len = 1 := Nat.eq_of_beq_eq_true hwf
        obtain ⟨a, rr, rfl, e2⟩ := xr1_some e1
        clear e1
        have e1 := e2
        clear e2
        obtain ⟨x, g1, e1⟩ := Option.bind_eq_some_iff.mp e1
        obtain ⟨t, nn, f, g2, rfl⟩ := o1len_some g1
        obtain ⟨hm, hw⟩ := ih _ _ _ _ e1
        exact ⟨hm, fun arr H locs L rp hS z1 z2 => x_len C rp g2 hdg (hw arr H locs L rp hS z1 z2)⟩
      case ifCond c off =>
        obtain rfl : len = 3 := Nat.eq_of_beq_eq_true hwf
        obtain ⟨x, rr, rfl, e2⟩ := xi1_some e1
        clear e1
        have e1 := e2
        clear e2
        cases c
        case eq =>
          replace e1 : (if x = 0 then xj pc off fun t => xrun O1 cl mi n t ls rr h else xrun O1 cl mi n (pc + 3) ls rr h) = some (r, h') := e1
          split at e1
          · next hc =>
            obtain ⟨t, ht, e1⟩ := xj_some e1
            obtain ⟨hm, hw⟩ := ih _ _ _ _ e1
            exact ⟨hm, fun arr H locs L rp hS z1 z2 => lv_if_eq hx hb hdg ht (fun _ => hw arr H locs L rp hS z1 z2) (fun q => absurd hc q)⟩
          · next hc =>
            obtain ⟨hm, hw⟩ := ih _ _ _ _ e1
            refine ⟨hm, fun arr H locs L rp hS z1 z2 => ?_⟩
            exact xv_if_eq_n hx hb hdg hc (hw arr H locs L rp hS z1 z2)
        case ne =>
          replace e1 : (if x = 0 then xrun O1 cl mi n (pc + 3) ls rr h else xj pc off fun t => xrun O1 cl mi n t ls rr h) = some (r, h') := e1
          split at e1
          · next hc =>
            obtain ⟨hm, hw⟩ := ih _ _ _ _ e1
            refine ⟨hm, fun arr H locs L rp hS z1 z2 => ?_⟩
            exact xv_if_ne_n hx hb hdg hc (hw arr H locs L rp hS z1 z2)
          · next hc =>
            obtain ⟨t, ht, e1⟩ := xj_some e1
            obtain ⟨hm, hw⟩ := ih _ _ _ _ e1
            exact ⟨hm, fun arr H locs L rp hS z1 z2 => lv_if_ne hx hb hdg ht (fun _ => hw arr H locs L rp hS z1 z2) (fun q => absurd q hc)⟩
        case lt =>
          replace e1 : (if x < 0 then xj pc off fun t => xrun O1 cl mi n t ls rr h else xrun O1 cl mi n (pc + 3) ls rr h) = some (r, h') := e1
          split at e1
          · next hc =>
            obtain ⟨t, ht, e1⟩ := xj_some e1
            obtain ⟨hm, hw⟩ := ih _ _ _ _ e1
            exact ⟨hm, fun arr H locs L rp hS z1 z2 => lv_if_lt hx hb hdg ht (fun _ => hw arr H locs L rp hS z1 z2) (fun q => absurd hc q)⟩
          · next hc =>
            obtain ⟨hm, hw⟩ := ih _ _ _ _ e1
            refine ⟨hm, fun arr H locs L rp hS z1 z2 => ?_⟩
            exact xv_if_lt_n hx hb hdg hc (hw arr H locs L rp hS z1 z2)
        case ge =>
          replace e1 : (if 0 ≤ x then xj pc off fun t => xrun O1 cl mi n t ls rr h else xrun O1 cl mi n (pc + 3) ls rr h) = some (r, h') := e1
          split at e1
          · next hc =>
            obtain ⟨t, ht, e1⟩ := xj_some e1
            obtain ⟨hm, hw⟩ := ih _ _ _ _ e1
            exact ⟨hm, fun arr H locs L rp hS z1 z2 => lv_if_ge hx hb hdg ht (fun _ => hw arr H locs L rp hS z1 z2) (fun q => absurd hc q)⟩
          · next hc =>
            obtain ⟨hm, hw⟩ := ih _ _ _ _ e1
            refine ⟨hm, fun arr H locs L rp hS z1 z2 => ?_⟩
            exact xv_if_ge_n hx hb hdg hc (hw arr H locs L rp hS z1 z2)
        case gt =>
          replace e1 : (if 0 < x then xj pc off fun t => xrun O1 cl mi n t ls rr h else xrun O1 cl mi n (pc + 3) ls rr h) = some (r, h') := e1
          split at e1
          · next hc =>
            obtain ⟨t, ht, e1⟩ := xj_some e1
            obtain ⟨hm, hw⟩ := ih _ _ _ _ e1
            exact ⟨hm, fun arr H locs L rp hS z1 z2 => lv_if_gt hx hb hdg ht (fun _ => hw arr H locs L rp hS z1 z2) (fun q => absurd hc q)⟩
          · next hc =>
            obtain ⟨hm, hw⟩ := ih _ _ _ _ e1
            refine ⟨hm, fun arr H locs L rp hS z1 z2 => ?_⟩
            exact xv_if_gt_n hx hb hdg hc (hw arr H locs L rp hS z1 z2)
        case le =>
          replace e1 : (if x ≤ 0 then xj pc off fun t => xrun O1 cl mi n t ls rr h else xrun O1 cl mi n (pc + 3) ls rr h) = some (r, h') := e1
          split at e1
          · next hc =>
            obtain ⟨t, ht, e1⟩ := xj_some e1
            obtain ⟨hm, hw⟩ := ih _ _ _ _ e1
            exact ⟨hm, fun arr H locs L rp hS z1 z2 => lv_if_le hx hb hdg ht (fun _ => hw arr H locs L rp hS z1 z2) (fun q => absurd hc q)⟩
          · next hc =>
            obtain ⟨hm, hw⟩ := ih _ _ _ _ e1
            refine ⟨hm, fun arr H locs L rp hS z1 z2 => ?_⟩
            exact xv_if_le_n hx hb hdg hc (hw arr H locs L rp hS z1 z2)
      case if_icmp c off =>
        obtain rfl : len = 3 := Nat.eq_of_beq_eq_true hwf
        obtain ⟨x, y, rr, rfl, e2⟩ := xi2_some e1
        clear e1
        have e1 := e2
        clear e2
        cases c
        case eq =>
          replace e1 : (if x = y then xj pc off fun t => xrun O1 cl mi n t ls rr h else xrun O1 cl mi n (pc + 3) ls rr h) = some (r, h') := e1
          split at e1
          · next hc =>
            obtain ⟨t, ht, e1⟩ := xj_some e1
            obtain ⟨hm, hw⟩ := ih _ _ _ _ e1
            exact ⟨hm, fun arr H locs L rp hS z1 z2 => lv_icmp_eq hx hb hdg ht (fun _ => hw arr H locs L rp hS z1 z2) (fun q => absurd hc q)⟩
          · next hc =>
            obtain ⟨hm, hw⟩ := ih _ _ _ _ e1
            refine ⟨hm, fun arr H locs L rp hS z1 z2 => ?_⟩
            exact xv_icmp_eq_n hx hb hdg hc (hw arr H locs L rp hS z1 z2)
        case ne =>
          replace e1 : (if x = y then xrun O1 cl mi n (pc + 3) ls rr h else xj pc off fun t => xrun O1 cl mi n t ls rr h) = some (r, h') := e1
          split at e1
          · next hc =>
            obtain ⟨hm, hw⟩ := ih _ _ _ _ e1
            refine ⟨hm, fun arr H locs L rp hS z1 z2 => ?_⟩
            exact xv_icmp_ne_n hx hb hdg hc (hw arr H locs L rp hS z1 z2)
          · next hc =>
            obtain ⟨t, ht, e1⟩ := xj_some e1
            obtain ⟨hm, hw⟩ := ih _ _ _ _ e1
            exact ⟨hm, fun arr H locs L rp hS z1 z2 => lv_icmp_ne hx hb hdg ht (fun _ => hw arr H locs L rp hS z1 z2) (fun q => absurd q hc)⟩
        case lt =>
          replace e1 : (if x < y then xj pc off fun t => xrun O1 cl mi n t ls rr h else xrun O1 cl mi n (pc + 3) ls rr h) = some (r, h') := e1
          split at e1
          · next hc =>
            obtain ⟨t, ht, e1⟩ := xj_some e1
            obtain ⟨hm, hw⟩ := ih _ _ _ _ e1
            exact ⟨hm, fun arr H locs L rp hS z1 z2 => lv_icmp_lt hx hb hdg ht (fun _ => hw arr H locs L rp hS z1 z2) (fun q => absurd hc q)⟩
          · next hc =>
            obtain ⟨hm, hw⟩ := ih _ _ _ _ e1
            refine ⟨hm, fun arr H locs L rp hS z1 z2 => ?_⟩
            exact xv_icmp_lt_n hx hb hdg hc (hw arr H locs L rp hS z1 z2)
        case ge =>
          replace e1 : (if y ≤ x then xj pc off fun t => xrun O1 cl mi n t ls rr h else xrun O1 cl mi n (pc + 3) ls rr h) = some (r, h') := e1
          split at e1
          · next hc =>
            obtain ⟨t, ht, e1⟩ := xj_some e1
            obtain ⟨hm, hw⟩ := ih _ _ _ _ e1
            exact ⟨hm, fun arr H locs L rp hS z1 z2 => lv_icmp_ge hx hb hdg ht (fun _ => hw arr H locs L rp hS z1 z2) (fun q => absurd hc q)⟩
          · next hc =>
            obtain ⟨hm, hw⟩ := ih _ _ _ _ e1
            refine ⟨hm, fun arr H locs L rp hS z1 z2 => ?_⟩
            exact xv_icmp_ge_n hx hb hdg hc (hw arr H locs L rp hS z1 z2)
        case gt =>
          replace e1 : (if y < x then xj pc off fun t => xrun O1 cl mi n t ls rr h else xrun O1 cl mi n (pc + 3) ls rr h) = some (r, h') := e1
          split at e1
          · next hc =>
            obtain ⟨t, ht, e1⟩ := xj_some e1
            obtain ⟨hm, hw⟩ := ih _ _ _ _ e1
            exact ⟨hm, fun arr H locs L rp hS z1 z2 => lv_icmp_gt hx hb hdg ht (fun _ => hw arr H locs L rp hS z1 z2) (fun q => absurd hc q)⟩
          · next hc =>
            obtain ⟨hm, hw⟩ := ih _ _ _ _ e1
            refine ⟨hm, fun arr H locs L rp hS z1 z2 => ?_⟩
            exact xv_icmp_gt_n hx hb hdg hc (hw arr H locs L rp hS z1 z2)
        case le =>
          replace e1 : (if x ≤ y then xj pc off fun t => xrun O1 cl mi n t ls rr h else xrun O1 cl mi n (pc + 3) ls rr h) = some (r, h') := e1
          split at e1
          · next hc =>
            obtain ⟨t, ht, e1⟩ := xj_some e1
            obtain ⟨hm, hw⟩ := ih _ _ _ _ e1
            exact ⟨hm, fun arr H locs L rp hS z1 z2 => lv_icmp_le hx hb hdg ht (fun _ => hw arr H locs L rp hS z1 z2) (fun q => absurd hc q)⟩
          · next hc =>
            obtain ⟨hm, hw⟩ := ih _ _ _ _ e1
            refine ⟨hm, fun arr H locs L rp hS z1 z2 => ?_⟩
            exact xv_icmp_le_n hx hb hdg hc (hw arr H locs L rp hS z1 z2)
      case goto off =>
        obtain rfl : len = 3 := Nat.eq_of_beq_eq_true hwf
        obtain ⟨t, ht, e1⟩ := xj_some e1
        obtain ⟨hm, hw⟩ := ih _ _ _ _ e1
        exact ⟨hm, fun arr H locs L rp hS z1 z2 => lv_goto hx hb hdg ht (hw arr H locs L rp hS z1 z2)⟩
      case tableswitch dd lo hi offs =>
        simp only [xwf, Bool.and_eq_true, decide_eq_true_eq] at hwf
        obtain ⟨⟨rfl, hhi⟩, hsz⟩ := hwf
        have hsz : offs.size ≤ 100 := Nat.le_of_ble_eq_true hsz
        obtain ⟨x, rr, rfl, e2⟩ := xi1_some e1
        clear e1
        have e1 := e2
        clear e2
        rcases xsw_some e1 with ⟨jj, off, t, g1, g2, g3, e1⟩ | ⟨g1, t, g3, e1⟩
        · obtain ⟨hm, hw⟩ := ih _ _ _ _ e1
          have hjs : jj < offs.size := by have := (List.getElem?_eq_some_iff.mp g1).1; simpa using this
          have hxi : x.toInt = (jj : Int) := by rw [g2, show (0 : Int) + (jj : Int) = (jj : Int) by omega]; exact xlit_toInt (by omega) (by omega)
          exact ⟨hm, fun arr H locs L rp hS z1 z2 => lv_tableIn hx hb hdg (by rw [hxi]; omega) (by rw [hxi]; omega) (by rw [hxi]; simpa using g1) g3 (hw arr H locs L rp hS z1 z2)⟩
        · obtain ⟨hm, hw⟩ := ih _ _ _ _ e1
          refine ⟨hm, fun arr H locs L rp hS z1 z2 => lv_tableOut hx hb hdg ?_ g3 (hw arr H locs L rp hS z1 z2)⟩
          by_cases q1 : x.toInt < 0
          · exact Or.inl q1
          · refine Or.inr (Int.not_le.mp fun q2 => ?_)
            refine g1 x.toInt.toNat (by rw [Array.length_toList]; omega) ?_
            apply Int32.toInt_inj.mp
            rw [show (0 : Int) + (x.toInt.toNat : Int) = x.toInt by omega, xlit_toInt (by omega) (by omega)]
      case lookupswitch dd ps =>
        simp only [xwf, Bool.and_eq_true] at hwf
        obtain ⟨x, rr, rfl, e2⟩ := xi1_some e1
        clear e1
        have e1 := e2
        clear e2
        obtain ⟨t, g1, e1⟩ := xlk_some (by simpa using hwf.2) e1
        obtain ⟨hm, hw⟩ := ih _ _ _ _ e1
        exact ⟨hm, fun arr H locs L rp hS z1 z2 => lv_lookup hx hb hdg hwf.1 rfl g1 (hw arr H locs L rp hS z1 z2)⟩
      case ireturn =>
        obtain rfl : len = 1 := Nat.eq_of_beq_eq_true hwf
        replace e1 : xret (xry mi) st h = some (r, h') := e1
        cases st with
        | nil => cases e1
        | cons v rr =>
          cases rr with
          | cons v2 rr => cases v <;> cases e1
          | nil =>
            cases v with
            | int x =>
              replace e1 : (bif Nat.beq (xry mi) 1 then (if x = 0 ∨ x = 1 then some (x, h) else none) else bif Nat.beq (xry mi) 0 then some (x, h) else none) = some (r, h') := e1
              cases hb1 : Nat.beq (xry mi) 1 with
              | true =>
                rw [hb1] at e1
                replace e1 : (if x = 0 ∨ x = 1 then some (x, h) else none) = some (r, h') := e1
                split at e1
                · next hx01 =>
                  cases e1
                  exact ⟨⟨Nat.le_refl _, Nat.le_refl _⟩, fun arr H locs L rp hS z1 z2 => hri pc arr H locs hdg (Or.inr ⟨Nat.eq_of_beq_eq_true hb1, hx01⟩) rp hS⟩
                · cases e1
              | false =>
                rw [hb1] at e1
                cases hb0 : Nat.beq (xry mi) 0 with
                | true =>
                  rw [hb0] at e1
                  cases e1
                  exact ⟨⟨Nat.le_refl _, Nat.le_refl _⟩, fun arr H locs L rp hS z1 z2 => hri pc arr H locs hdg (Or.inl (Nat.eq_of_beq_eq_true hb0)) rp hS⟩
                | false => rw [hb0] at e1; cases e1
            | _ => cases e1
      case return_ =>
        obtain rfl : len = 1 := Nat.eq_of_beq_eq_true hwf
        replace e1 : xvret (xry mi) st h = some (r, h') := e1
        cases st with
        | cons v rr => cases e1
        | nil =>
          replace e1 : (bif Nat.beq (xry mi) 2 then some (0, h) else none) = some (r, h') := e1
          cases hb2 : Nat.beq (xry mi) 2 with
          | true =>
            rw [hb2] at e1
            cases e1
            exact ⟨⟨Nat.le_refl _, Nat.le_refl _⟩, fun arr H locs L rp hS z1 z2 => hrv pc arr H locs hdg (Nat.eq_of_beq_eq_true hb2) rp hS⟩
          | false => rw [hb2] at e1; cases e1
      all_goals cases e1
