/-! THE CLAIM OUT OF ONE WALK OF THE LAW'S BODY. Your part is whole_start (and what it stands on); all else here is the same for every law, but numbers. -/
def R_law : String := "HighlightPlacesLaw"
def lw_P (b : Addr) (xs : List Int32) (args : Array Value) (s : State) : Prop := args = #[.ref b] ∧ s.IntsAt b xs ∧ xs.length ≤ 3072 ∧ (Jvm.Cond.and given_1 narrow_1).before args s = true
def lw_Q (_ : Array Value) (s : State) (o : Outcome) (t : State) : Prop := o = .returned (some (.int 1)) ∧ Framed s o t [] 600000 7302250
def lw_Z (below : List Frame) (a : Array Value) (s : State) : State → Prop := fun t => ∃ o, t.status = .running ∧ Ended t below o ∧ lw_Q a s o t
/-- the law's own end, with 1 on the stack, nothing written that was there before, its room as the claim has it -/
theorem lw_ret {p : Program} {l : Launch} {e : Env} {s : State} {m : MethodId} {below : List Frame} {meth : Method} {c : Code} {b : Nat} (hx : p.tables.exec = Jvm.exec) (hb : c.code = code) (hr : meth.sig.returnType = ret) (hlocks : meth.locks = false) {pc : Nat} {H : Heap} {ls : Array Slot} (hdg : decode code pc = .ok (.ireturn, 1)) : W p l e room_1 s m #[Value.ref b] below meth c H [] 600000 7302250 (lw_Z below #[Value.ref b] s) (F0 m pc ls [.int 1]) := by
  intro T hT X
  obtain ⟨fs, hret, hrun, hended, hW, hframe⟩ := X.leave (v := some (.int 1)) (hlocks := hlocks) (fun h => by rw [hr] at h; cases h)
  have hmeth' : T.vm.method? m = some meth := X.method'
  refine ⟨T.setFrames fs, ?_, .returned (some (.int 1)), hrun, hended, rfl, ⟨_, rfl⟩, hW, hframe⟩
  jvm_step X.here [X.here.top, hx, hb, hdg, hmeth', hr, ret, narrow_b1]
  (try refine ⟨rfl, ?_⟩); (try refine ⟨rfl, ?_⟩)
  first | (intro acts; rw [hret _ acts rfl rfl rfl]) | rw [hret _ _ rfl rfl rfl]
  exact Steps.refl _
/-- what holds at the law's entry: the machine, the code, the tables' words (any of lw_tbl by 'hts w (by decide +kernel)'), the script of L ints xs at the cell b, what the Statement gives of the start (any of its parts by flat_of_before) -/
def lw_At (p : Program) (s : State) (m : MethodId) (meth : Method) (c : Code) (b L : Nat) (xs : Nat → Int32) : Prop :=
  p.tables.exec = Jvm.exec ∧ c.code = code ∧ meth.sig.returnType = ret ∧ c.maxLocals = 4 ∧ s.vm.findClass R_law = some m.cls ∧ (∀ w ∈ lw_tbl, w.before #[Value.ref b] s = true) ∧ va_X b L xs s s.heap ∧ b < s.heap.size ∧ meth.locks = false ∧ (Jvm.Cond.and given_1 narrow_1).before #[Value.ref b] s = true
/-- the heap at the law's start: the script, and nothing else -/
def xh0 (base b L : Nat) (xs : Nat → Int32) : xH := (fun a => if a = b then some (.inl (2, L, xs)) else none, base, 0)
theorem xKN_of {s : State} {b : Nat} (hts : ∀ w ∈ lw_tbl, w.before #[Value.ref b] s = true) : ∃ (D : va_G) (cI cZ : ClassId), xKN D cI cZ s := by
  have hts' : ∀ w ∈ xTB, w.before #[Value.ref b] s = true := fun w hw => hts w (List.mem_filter.mp hw).1
  have h1 : ∀ c, ∃ q : ClassId × (Nat → Nat), c ≤ 8 → u_Kn s (xRN c) (xT c) (xN c) q.1 q.2 := by
    intro c
    by_cases hc : c ≤ 8
    · obtain ⟨cC, iS, h⟩ := u_known (C := xRN c) (T := xT c) (N := xN c) (n := xN c) hts' (xkok_of hc).2 (hts _ (xkok_of hc).1)
      exact ⟨(cC, iS), fun _ => h⟩
    · exact ⟨(0, fun _ => 0), fun h => absurd h hc⟩
  obtain ⟨cI, kI, compI, i1, i2, i3⟩ := Cond.arrayClass_spec (hts _ xarr_in.1)
  obtain ⟨cZ, kZ, compZ, z1, z2, z3⟩ := Cond.arrayClass_spec (hts _ xarr_in.2)
  refine ⟨(fun c => (Classical.choose (h1 c)).1, fun c => (Classical.choose (h1 c)).2), cI, cZ, ⟨fun c q hq => ?_, fun k q hk => ?_⟩, fun a i y h hw => va_Nw.of rfl (hts _ hw)⟩
  · have hc : c ≤ 8 := Nat.le_of_lt_succ (List.getElem?_eq_some_iff.mp hq).1
    rw [xcl_at c hc] at hq
    cases hq
    exact Classical.choose_spec (h1 c) hc
  · match k, hk with
    | 0, hk => cases hk; exact ⟨fun n z => ⟨fun k h => (by cases h), kI, i2, compI, i3⟩, i1⟩
    | 1, hk => cases hk; exact ⟨fun n z => ⟨fun k h => (by cases h), kZ, z2, compZ, z3⟩, z1⟩
    | k + 2, hk => simp at hk
set_option maxHeartbeats 4000000 in
set_option maxRecDepth 100000 in
/-- THE LAW out of the abstract machine's answer -/
theorem whole_of {p : Program} {e : Env} {s : State} {m : MethodId} {below : List Frame} {meth : Method} {c : Code} (l : Launch) {b L : Nat} {xs : Nat → Int32} (C0 : lw_At p s m meth c b L xs) {h' : xH}
    (hrun : xruns O1 (xden O1 xnp 9) 164 0 [.ref b, .null, .null, .null] [] (xh0 s.heap.size b L xs) = some (1, h')) (hz1 : h'.2.1 - s.heap.size ≤ 600000) (hz2 : h'.2.2 ≤ 7302250) :
    W p l e room_1 s m #[Value.ref b] below meth c s.heap [] 0 0 (lw_Z below #[Value.ref b] s) (entryFrame m ([Value.ref b] : List Value).toArray 4) := by
  obtain ⟨hx, hb, hr, hml, hown, hts, hX, hbl, hlocks, hgv⟩ := id C0
  obtain ⟨D, cI, cZ, hK⟩ := xKN_of hts
  obtain ⟨n, hn⟩ := xruns_iff.mp hrun
  have hrep : xRep D cI cZ s.heap.size (xh0 s.heap.size b L xs) s s.heap := by
    refine ⟨rfl, Nat.le_refl _, fun a e he => ?_⟩
    replace he : (if a = b then some (Sum.inl (2, L, xs)) else none) = some e := he
    split at he
    · next q => cases he; subst q; exact Or.inr ⟨hbl, L, xs, rfl, hX⟩
    · cases he
  have C : xCtx D cI cZ s.heap.size p s m #[Value.ref b] meth c 164 := ⟨hx, hb, hml, hown, fun w hw => hts w (List.mem_filter.mp hw).1, fun q => absurd q (by decide +kernel), hK, Nat.le_refl _⟩
  have key := xcore l (cl := xden O1 xnp 9) (d := 9) (fun m as h r h' e hm => xsound l D cI cZ s.heap.size 9 m as h r h' e hm) (fun m as h r h' e => xden_le 9 m as h (r, h') e) (fun m as h q e => xden_rc 9 m as h q e) (R := room_1) (e := e) (below := below) (Q := lw_Z below #[Value.ref b] s) C (by decide) (by decide) (h0 := xh0 s.heap.size b L xs) (h' := h') (r := 1) hz1 (by show h'.2.2 - 0 ≤ _; exact hz2)
    (fun pc arr H locs hdg hry rp hS => by
      refine W.widen (k := 600000) (n := 7302250) hz1 (by show h'.2.2 - 0 ≤ _; exact hz2) (va_forget hS.2.2 ?_)
      exact lw_ret hx hb hr hlocks hdg)
    (fun pc arr H locs hdg hry rp hS => absurd hry (by decide +kernel))
    n 0 _ _ _ hn
  have hw := key.2 _ s.heap [] (xLoc_entry (as := [.ref b]) rfl (Nat.le_of_ble_eq_true rfl)) hrep va_S.rf (Nat.le_refl _) (Nat.le_refl _)
  rw [Nat.sub_self, Nat.sub_self] at hw
  rw [lg_entry_eq]
  exact hw
