/-! THE HEAP OF THE ABSTRACT MACHINE: what an address holds, the next address, the slots so far. An array: its type (0 int, 1 boolean, 2 the script), length, contents; an object: its class, fields. -/
abbrev xE : Type := (Nat × Nat × (Nat → Int32)) ⊕ (Nat × List Value)
abbrev xH : Type := (Nat → Option xE) × Nat × Nat
def o1I (h : xH) (a c f : Nat) : Option Int32 := match h.1 a with
  | some (.inr (c', fs)) => bif Nat.beq c' c then (match fs[f]? with
    | some (.int x) => some x
    | _ => none) else none
  | _ => none
def o1R (h : xH) (a c f : Nat) : Option Nat := match h.1 a with
  | some (.inr (c', fs)) => bif Nat.beq c' c then (match fs[f]? with
    | some (.ref x) => some x
    | _ => none) else none
  | _ => none
def o1P (h : xH) (a c f : Nat) (v : Value) : Option xH := match h.1 a with
  | some (.inr (c', fs)) => bif Nat.beq c' c && Nat.blt f fs.length then some (va_up h.1 a (some (.inr (c', fs.set f v))), h.2) else none
  | _ => none
def o1N (h : xH) (c : Nat) : Option (Nat × xH) := bif Nat.ble c 8 then some (h.2.1, va_up h.1 h.2.1 (some (.inr (c, xdf c))), h.2.1 + 1, h.2.2 + xN c) else none
def o1A (h : xH) (t : Nat) (n : Int32) : Option (Nat × xH) := if n < 0 ∨ 100000 < n.toNatClampNeg then none else some (h.2.1, va_up h.1 h.2.1 (some (.inl (t, n.toNatClampNeg, fun _ => 0))), h.2.1 + 1, h.2.2 + n.toNatClampNeg)
def o1L (h : xH) (t a : Nat) (i : Int32) : Option Int32 := match h.1 a with
  | some (.inl (t', n, f)) => if (t' = t ∨ (t' = 2 ∧ t = 0)) ∧ ¬ (i < 0 ∨ n ≤ i.toNatClampNeg) then some (f i.toNatClampNeg) else none
  | _ => none
def o1S (h : xH) (t a : Nat) (i x : Int32) : Option xH := match h.1 a with
  | some (.inl (t', n, f)) => if t' = t ∧ ¬ (i < 0 ∨ n ≤ i.toNatClampNeg) then some (va_up h.1 a (some (.inl (t', n, upd f i.toNatClampNeg x))), h.2) else none
  | _ => none
def o1len (h : xH) (a : Nat) : Option Int32 := match h.1 a with
  | some (.inl (_, n, _)) => some (Int32.ofNat n)
  | _ => none
def o1O (h : xH) (a c : Nat) : Bool := match h.1 a with
  | some (.inr (c', _)) => Nat.beq c' c
  | _ => false
def O1 : xOps xH := (o1I, o1R, o1P, o1N, o1A, o1L, o1S, o1len, o1O)
def xtoE (cI cZ : ClassId) (e : xE) : va_E := match e with
  | .inl (t, n, f) => .inl (if t = 1 then cZ else cI, n, .inl f)
  | .inr o => .inr o
/-- the machine's heap holds what the abstract one says; the script lies below -/
def xRep (D : va_G) (cI cZ : ClassId) (base : Nat) (h : xH) (U : State) (H : Heap) : Prop :=
  H.size = h.2.1 ∧ base ≤ H.size ∧ ∀ a e, h.1 a = some e → (base ≤ a ∧ va_at D vwCl (a, xtoE cI cZ e) H) ∨ (a < base ∧ ∃ n f, e = .inl (2, n, f) ∧ va_X a n f U H)
theorem xRep.moved {D : va_G} {cI cZ : ClassId} {base : Nat} {h : xH} {u U : State} {H : Heap} (hvm : u.vm.Alike U.vm) (r : xRep D cI cZ base h u H) : xRep D cI cZ base h U H := by
  refine ⟨r.1, r.2.1, fun a e he => ?_⟩
  rcases r.2.2 a e he with q | ⟨q1, n, f, q2, q3⟩
  · exact Or.inl q
  · exact Or.inr ⟨q1, n, f, q2, q3.moved hvm⟩
theorem xRep.upd {D : va_G} {cI cZ : ClassId} {base a : Nat} {e : xE} {h : xH} {U : State} {H H1 : Heap} (r : xRep D cI cZ base h U H) (hb : base ≤ a) (he : va_at D vwCl (a, xtoE cI cZ e) H1) (hz : H1.size = H.size) (ho : ∀ q : Nat, q ≠ a → H1[q]? = H[q]?) : xRep D cI cZ base (va_up h.1 a (some e), h.2) U H1 := by
  refine ⟨hz.trans r.1, by rw [hz]; exact r.2.1, fun a' e' he' => ?_⟩
  by_cases ha : a' = a
  · subst ha
    rw [show (va_up h.1 a' (some e), h.2).1 a' = some e from va_up_self _ _ _] at he'
    cases he'
    exact Or.inl ⟨hb, he⟩
  · rw [show (va_up h.1 a (some e), h.2).1 a' = h.1 a' from va_up_ne _ _ ha] at he'
    rcases r.2.2 a' e' he' with ⟨q1, q2⟩ | ⟨q1, n, f, q2, q3⟩
    · exact Or.inl ⟨q1, q2.kept (ho _ ha)⟩
    · exact Or.inr ⟨q1, n, f, q2, q3.kept (ho _ ha)⟩
theorem va_X.lt {b L : Nat} {xs : Nat → Int32} {U : State} {H : Heap} (h : va_X b L xs U H) : b < H.size := by
  obtain ⟨scr, h1, -⟩ := h
  exact (Array.getElem?_eq_some_iff.mp h1).1
theorem xRep.push {D : va_G} {cI cZ : ClassId} {base z : Nat} {e : xE} {h : xH} {U : State} {H H1 : Heap} (r : xRep D cI cZ base h U H) (he : va_at D vwCl (h.2.1, xtoE cI cZ e) H1) (hz : H1.size = h.2.1 + 1) (ho : ∀ q : Nat, q < h.2.1 → H1[q]? = H[q]?) : xRep D cI cZ base (va_up h.1 h.2.1 (some e), h.2.1 + 1, z) U H1 := by
  have hs := r.1
  have hb := r.2.1
  refine ⟨hz, by rw [hz]; omega, fun a' e' he' => ?_⟩
  by_cases ha : a' = h.2.1
  · subst ha
    rw [show (va_up h.1 h.2.1 (some e), h.2.1 + 1, z).1 h.2.1 = some e from va_up_self _ _ _] at he'
    cases he'
    exact Or.inl ⟨by omega, he⟩
  · rw [show (va_up h.1 h.2.1 (some e), h.2.1 + 1, z).1 a' = h.1 a' from va_up_ne _ _ ha] at he'
    rcases r.2.2 a' e' he' with ⟨q1, q2⟩ | ⟨q1, n, f, q2, q3⟩
    · have hl := q2.lt
      exact Or.inl ⟨q1, q2.kept (ho _ (by rw [← hs]; exact hl))⟩
    · have hl := q3.lt
      exact Or.inr ⟨q1, n, f, q2, q3.kept (ho _ (by rw [← hs]; exact hl))⟩
/-- the locals -/
def xLoc (arr : Array Slot) (nL : Nat) (ls : List Value) : Prop := arr.size = nL ∧ lv_wf arr ∧ ls.length = nL ∧ ∀ i v, xnth ls i = v → v ≠ .null → v.category = 1 ∧ arr[i]? = some (.val v)
theorem xnth_lt {ls : List Value} {i : Nat} (h : xnth ls i ≠ .null) : i < ls.length := by
  induction ls generalizing i with
  | nil => exact absurd rfl h
  | cons v l ih =>
    cases i with
    | zero => simp
    | succ i => have := ih (i := i) h; simp; exact this
theorem xset_length (ls : List Value) (i : Nat) (v : Value) : (xset ls i v).length = ls.length := by
  induction ls generalizing i with
  | nil => rfl
  | cons w l ih =>
    cases i with
    | zero => rfl
    | succ i => simp [xset, ih]
theorem xnth_set (ls : List Value) (i j : Nat) (v : Value) (hi : i < ls.length) : xnth (xset ls i v) j = if j = i then v else xnth ls j := by
  induction ls generalizing i j with
  | nil => simp at hi
  | cons w l ih =>
    cases i with
    | zero => cases j <;> simp [xset, xnth]
    | succ i =>
      cases j with
      | zero => simp [xset, xnth]
      | succ j => simp only [xset, xnth, ih i j (by simpa using hi)]; simp
def xpairs (nL : Nat) (ls : List Value) : List (Nat × Value) := ((List.range nL).map fun j => (j, xnth ls j)).filter fun q => decide (q.2 ≠ .null)
theorem xLoc.has {arr : Array Slot} {nL : Nat} {ls : List Value} (h : xLoc arr nL ls) : lv_has arr nL (xpairs nL ls) := by
  refine ⟨h.1, h.2.1, fun q hq => ?_⟩
  obtain ⟨h1, h2⟩ := List.mem_filter.mp hq
  obtain ⟨j, -, rfl⟩ := List.mem_map.mp h1
  exact (h.2.2.2 j _ rfl (of_decide_eq_true h2)).2
theorem xLoc.stored {arr arr' : Array Slot} {nL i : Nat} {ls : List Value} {v : Value} (h : xLoc arr nL ls) (hi : i < nL) (hc : v.category = 1) (h' : lv_has arr' nL ((i, v) :: (xpairs nL ls).filter (fun q => !(q.1 == i) && !(q.1 + 1 == i && q.2.category == 2)))) : xLoc arr' nL (xset ls i v) := by
  refine ⟨h'.1, h'.2.1, (xset_length _ _ _).trans h.2.2.1, fun j w hw hn => ?_⟩
  rw [xnth_set ls i j v (by rw [h.2.2.1]; exact hi)] at hw
  by_cases hj : j = i
  · rw [if_pos hj] at hw
    subst hw; subst hj
    exact ⟨hc, h'.2.2 (j, v) List.mem_cons_self⟩
  · rw [if_neg hj] at hw
    obtain ⟨c1, c2⟩ := h.2.2.2 j w hw hn
    refine ⟨c1, h'.2.2 (j, w) (List.mem_cons_of_mem _ (List.mem_filter.mpr ⟨List.mem_filter.mpr ⟨List.mem_map.mpr ⟨j, List.mem_range.mpr ?_, by rw [hw]⟩, decide_eq_true hn⟩, ?_⟩))⟩
    · have := xnth_lt (ls := ls) (i := j) (by rw [hw]; exact hn)
      rw [h.2.2.1] at this
      exact this
    · simp [hj, c1]
theorem xLoc.int {arr : Array Slot} {nL i : Nat} {ls : List Value} {x : Int32} (h : xLoc arr nL ls) (hx : xnth ls i = .int x) : arr[i]? = some (.val (.int x)) := (h.2.2.2 i _ hx (by intro q; cases q)).2
theorem xLoc.ref {arr : Array Slot} {nL i : Nat} {ls : List Value} {x : Nat} (h : xLoc arr nL ls) (hx : xnth ls i = .ref x) : arr[i]? = some (.val (.ref x)) := (h.2.2.2 i _ hx (by intro q; cases q)).2
theorem xlit_eq (v : Int) : xlit v = Int32.ofInt v := by
  cases v with
  | ofNat n => exact Int32.ofInt_eq_ofNat.symm
  | negSucc n =>
    show -(Int32.ofNat (n + 1)) = _
    rw [Int32.neg_ofNat]
    rfl
theorem xlit_8 {v : Int} (h1 : -128 ≤ v) (h2 : v ≤ 127) : (Int8.ofInt v).toInt32 = xlit v := by
  rw [xlit_eq]
  apply Int32.toInt_inj.mp
  rw [Int8.toInt_toInt32, Int8.toInt_ofInt_of_le (by simpa using h1) (by simpa using (by omega : v < 128)), Int32.toInt_ofInt_of_le (by simp; omega) (by simp; omega)]
theorem xlit_16 {v : Int} (h1 : -32768 ≤ v) (h2 : v ≤ 32767) : (Int16.ofInt v).toInt32 = xlit v := by
  rw [xlit_eq]
  apply Int32.toInt_inj.mp
  rw [Int16.toInt_toInt32, Int16.toInt_ofInt_of_le (by simpa using h1) (by simpa using (by omega : v < 32768)), Int32.toInt_ofInt_of_le (by simp; omega) (by simp; omega)]
theorem xcl_at : ∀ c, c ≤ 8 → vwCl[c]? = some (xRN c, xT c, xN c) := by
  intro c hc
  match c, hc with
  | 0, _ => rfl
  | 1, _ => rfl
  | 2, _ => rfl
  | 3, _ => rfl
  | 4, _ => rfl
  | 5, _ => rfl
  | 6, _ => rfl
  | 7, _ => rfl
  | 8, _ => rfl
