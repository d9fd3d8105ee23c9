/-! the machine without fuel: one equation -/
section
variable {Hp : Type}
def xD (P : Hp → Prop) (F : xK Hp → Option (Int32 × Hp)) : Prop := (∃ c, (∀ q, c = some q → P q.2) ∧ ∀ k, F k = c) ∨ ∃ pc ls st g, P g ∧ ∀ k : xK Hp, F k = k pc ls st g
variable {P : Hp → Prop}
theorem xD_c (c : Option (Int32 × Hp)) (h : ∀ q, c = some q → P q.2) : xD P (fun _ : xK Hp => c) := Or.inl ⟨c, h, fun _ => rfl⟩
theorem xD_n : xD P (fun _ : xK Hp => none) := xD_c none (fun _ h => by cases h)
theorem xD_k (pc : Nat) (ls st : List Value) (g : Hp) (h : P g) : xD P (fun k : xK Hp => k pc ls st g) := Or.inr ⟨pc, ls, st, g, h, fun _ => rfl⟩
theorem xD_bind {A : Type} (o : Option A) {F : A → xK Hp → Option (Int32 × Hp)} (h : ∀ x, o = some x → xD P (F x)) : xD P (fun k => o.bind fun x => F x k) := by
  cases o with
  | none => exact xD_n
  | some x => exact h x rfl
theorem xD_ite (c : Prop) [Decidable c] {A B : xK Hp → Option (Int32 × Hp)} (hA : xD P A) (hB : xD P B) : xD P (fun k => if c then A k else B k) := by
  by_cases h : c
  · simpa [h] using hA
  · simpa [h] using hB
theorem xD_cond (c : Bool) {A B : xK Hp → Option (Int32 × Hp)} (hA : xD P A) (hB : xD P B) : xD P (fun k => bif c then A k else B k) := by
  cases c
  · exact hB
  · exact hA
theorem xD_xin (v : Value) {F : Int32 → xK Hp → Option (Int32 × Hp)} (h : ∀ x, xD P (F x)) : xD P (fun k => xin v fun x => F x k) := by
  cases v <;> first | exact h _ | exact xD_n
theorem xD_xrf (v : Value) {F : Nat → xK Hp → Option (Int32 × Hp)} (h : ∀ x, xD P (F x)) : xD P (fun k => xrf v fun x => F x k) := by
  cases v <;> first | exact h _ | exact xD_n
theorem xD_xi1 (st : List Value) {F : Int32 → List Value → xK Hp → Option (Int32 × Hp)} (h : ∀ x r, xD P (F x r)) : xD P (fun k => xi1 st fun x r => F x r k) := by
  match st with
  | .int x :: r => exact h x r
  | [] => exact xD_n
  | .null :: _ => exact xD_n
  | .ref _ :: _ => exact xD_n
  | .long _ :: _ => exact xD_n
  | .float _ :: _ => exact xD_n
  | .double _ :: _ => exact xD_n
  | .retAddr _ :: _ => exact xD_n
theorem xD_xr1 (st : List Value) {F : Nat → List Value → xK Hp → Option (Int32 × Hp)} (h : ∀ x r, xD P (F x r)) : xD P (fun k => xr1 st fun x r => F x r k) := by
  match st with
  | .ref x :: r => exact h x r
  | [] => exact xD_n
  | .null :: _ => exact xD_n
  | .int _ :: _ => exact xD_n
  | .long _ :: _ => exact xD_n
  | .float _ :: _ => exact xD_n
  | .double _ :: _ => exact xD_n
  | .retAddr _ :: _ => exact xD_n
theorem xi2_eq (st : List Value) (f : Int32 → Int32 → List Value → Option (Int32 × Hp)) : xi2 st f = xi1 st fun y r => xi1 r fun x r => f x y r := by
  match st with
  | .int x :: r =>
    cases r with
    | nil => rfl
    | cons v r => cases v <;> rfl
  | [] => rfl
  | .null :: _ => rfl
  | .ref _ :: _ => rfl
  | .long _ :: _ => rfl
  | .float _ :: _ => rfl
  | .double _ :: _ => rfl
  | .retAddr _ :: _ => rfl
theorem xri_eq (st : List Value) (f : Nat → Int32 → List Value → Option (Int32 × Hp)) : xri st f = xi1 st fun i r => xr1 r fun a r => f a i r := by
  match st with
  | .int x :: r =>
    cases r with
    | nil => rfl
    | cons v r => cases v <;> rfl
  | [] => rfl
  | .null :: _ => rfl
  | .ref _ :: _ => rfl
  | .long _ :: _ => rfl
  | .float _ :: _ => rfl
  | .double _ :: _ => rfl
  | .retAddr _ :: _ => rfl
theorem xrr_eq (st : List Value) (f : Nat → Nat → List Value → Option (Int32 × Hp)) : xrr st f = xr1 st fun b r => xr1 r fun a r => f a b r := by
  match st with
  | .ref x :: r =>
    cases r with
    | nil => rfl
    | cons v r => cases v <;> rfl
  | [] => rfl
  | .null :: _ => rfl
  | .int _ :: _ => rfl
  | .long _ :: _ => rfl
  | .float _ :: _ => rfl
  | .double _ :: _ => rfl
  | .retAddr _ :: _ => rfl
theorem xrii_eq (st : List Value) (f : Nat → Int32 → Int32 → List Value → Option (Int32 × Hp)) : xrii st f = xi1 st fun x r => xri r fun a i r => f a i x r := by
  match st with
  | .int x :: r =>
    match r with
    | .int y :: r =>
      cases r with
      | nil => rfl
      | cons v r => cases v <;> rfl
    | [] => rfl
    | .null :: _ => rfl
    | .ref _ :: _ => rfl
    | .long _ :: _ => rfl
    | .float _ :: _ => rfl
    | .double _ :: _ => rfl
    | .retAddr _ :: _ => rfl
  | [] => rfl
  | .null :: _ => rfl
  | .ref _ :: _ => rfl
  | .long _ :: _ => rfl
  | .float _ :: _ => rfl
  | .double _ :: _ => rfl
  | .retAddr _ :: _ => rfl
theorem xD_xi2 (st : List Value) {F : Int32 → Int32 → List Value → xK Hp → Option (Int32 × Hp)} (h : ∀ x y r, xD P (F x y r)) : xD P (fun k => xi2 st fun x y r => F x y r k) := by
  simp only [xi2_eq]
  exact xD_xi1 _ fun y r => xD_xi1 _ fun x r => h x y r
theorem xD_xri (st : List Value) {F : Nat → Int32 → List Value → xK Hp → Option (Int32 × Hp)} (h : ∀ x y r, xD P (F x y r)) : xD P (fun k => xri st fun x y r => F x y r k) := by
  simp only [xri_eq]
  exact xD_xi1 _ fun y r => xD_xr1 _ fun x r => h x y r
theorem xD_xrr (st : List Value) {F : Nat → Nat → List Value → xK Hp → Option (Int32 × Hp)} (h : ∀ x y r, xD P (F x y r)) : xD P (fun k => xrr st fun x y r => F x y r k) := by
  simp only [xrr_eq]
  exact xD_xr1 _ fun y r => xD_xr1 _ fun x r => h x y r
theorem xD_xrii (st : List Value) {F : Nat → Int32 → Int32 → List Value → xK Hp → Option (Int32 × Hp)} (h : ∀ a i x r, xD P (F a i x r)) : xD P (fun k => xrii st fun a i x r => F a i x r k) := by
  simp only [xrii_eq]
  exact xD_xi1 _ fun x r => xD_xri _ fun a i r => h a i x r
theorem xD_xj (pc : Nat) (off : Int) {F : Nat → xK Hp → Option (Int32 × Hp)} (h : ∀ t, xD P (F t)) : xD P (fun k => xj pc off fun t => F t k) := by
  unfold xj
  cases (pc : Int) + off with
  | ofNat t => exact h t
  | negSucc _ => exact xD_n
theorem xD_xsw (x : Int32) (os : List Int) : ∀ (lo : Int) (pc : Nat) (d : Int) {F : Nat → xK Hp → Option (Int32 × Hp)} (_ : ∀ t, xD P (F t)), xD P (fun k => xsw x lo os pc d fun t => F t k) := by
  induction os with
  | nil => exact fun _ pc d F h => xD_xj pc d h
  | cons o os ih => exact fun lo pc d F h => xD_ite _ (xD_xj pc o h) (ih _ pc d h)
theorem xD_xlk (x : Int32) (os : List (Int × Int)) : ∀ (pc : Nat) (d : Int) {F : Nat → xK Hp → Option (Int32 × Hp)} (_ : ∀ t, xD P (F t)), xD P (fun k => xlk x os pc d fun t => F t k) := by
  induction os with
  | nil => exact fun pc d F h => xD_xj pc d h
  | cons o os ih => exact fun pc d F h => xD_ite _ (xD_xj pc o.2 h) (ih pc d h)
theorem xD_xc1 (c : Jvm.ClassFile.Cond) (x : Int32) {A B : xK Hp → Option (Int32 × Hp)} (hA : xD P A) (hB : xD P B) : xD P (fun k => xc1 c x (A k) (B k)) := by
  cases c
  · exact xD_ite _ hA hB
  · exact xD_ite _ hB hA
  · exact xD_ite _ hA hB
  · exact xD_ite _ hA hB
  · exact xD_ite _ hA hB
  · exact xD_ite _ hA hB
theorem xD_xc2 (c : Jvm.ClassFile.Cond) (x y : Int32) {A B : xK Hp → Option (Int32 × Hp)} (hA : xD P A) (hB : xD P B) : xD P (fun k => xc2 c x y (A k) (B k)) := by
  cases c
  · exact xD_ite _ hA hB
  · exact xD_ite _ hB hA
  · exact xD_ite _ hA hB
  · exact xD_ite _ hA hB
  · exact xD_ite _ hA hB
  · exact xD_ite _ hA hB
theorem xD_xcl (cl : Nat → List Value → Hp → Option (Int32 × Hp)) (m a npc : Nat) (ls st : List Value) (g : Hp) (hc : ∀ m as w, cl m as g = some w → P w.2) : xD P (fun k => xcl cl k m a npc ls st g) := by
  unfold xcl
  cases xpop a st [] with
  | none => exact xD_n
  | some q => exact xD_cond _ (xD_bind _ fun w hw => xD_k _ _ _ _ (hc _ _ _ hw)) xD_n
theorem xD_xgf (O : xOps Hp) (q : Option (Nat × Nat × Nat)) (npc : Nat) (ls st : List Value) (g : Hp) (hg : P g) : xD P (fun k => xgf O q k npc ls st g) := by
  cases q with
  | none => exact xD_n
  | some q => exact xD_xr1 _ fun a r => xD_cond _ (xD_bind _ fun w _ => xD_k _ _ _ _ hg) (xD_bind _ fun w _ => xD_k _ _ _ _ hg)
theorem xD_xpf (O : xOps Hp) (q : Option (Nat × Nat × Nat)) (npc : Nat) (ls st : List Value) (g : Hp) (hp : ∀ a c f v g', O.2.2.1 g a c f v = some g' → P g') : xD P (fun k => xpf O q k npc ls st g) := by
  cases q with
  | none => exact xD_n
  | some q => exact xD_cond _ (xD_xrr _ fun a b r => xD_bind _ fun w hw => xD_k _ _ _ _ (hp _ _ _ _ _ hw)) (xD_cond _ (xD_xri _ fun a b r => xD_ite _ (xD_bind _ fun w hw => xD_k _ _ _ _ (hp _ _ _ _ _ hw)) xD_n) (xD_xri _ fun a b r => xD_bind _ fun w hw => xD_k _ _ _ _ (hp _ _ _ _ _ hw)))
theorem xD_xiv (cl : Nat → List Value → Hp → Option (Int32 × Hp)) (q : Option (Nat × Nat × Nat)) (npc : Nat) (ls st : List Value) (g : Hp) (hg : P g) (hc : ∀ m as w, cl m as g = some w → P w.2) : xD P (fun k => xiv cl q k npc ls st g) := by
  cases q with
  | none => exact xD_n
  | some q => exact xD_cond _ (xD_xcl _ _ _ _ _ _ _ hc) xD_n
theorem xD_xip (cl : Nat → List Value → Hp → Option (Int32 × Hp)) (q : Option (Nat × Nat × Nat)) (npc : Nat) (ls st : List Value) (g : Hp) (hg : P g) (hc : ∀ m as w, cl m as g = some w → P w.2) : xD P (fun k => xip cl q k npc ls st g) := by
  cases q with
  | none => exact xD_n
  | some q => exact xD_cond _ (xD_xr1 _ fun _ r => xD_cond _ (xD_k _ _ _ _ hg) xD_n) (xD_cond _ (xD_xcl _ _ _ _ _ _ _ hc) xD_n)
theorem xD_xis (cl : Nat → List Value → Hp → Option (Int32 × Hp)) (q : Option (Nat × Nat × Nat)) (npc : Nat) (ls st : List Value) (g : Hp) (hg : P g) (hc : ∀ m as w, cl m as g = some w → P w.2) : xD P (fun k => xis cl q k npc ls st g) := by
  cases q with
  | none => exact xD_n
  | some q => exact xD_cond _ (xD_xi2 _ fun x y r => xD_cond _ (xD_k _ _ _ _ hg) xD_n) (xD_cond _ (xD_xi2 _ fun x y r => xD_cond _ (xD_k _ _ _ _ hg) xD_n) (xD_cond _ (xD_xcl _ _ _ _ _ _ _ hc) (xD_cond _ (xD_xcl _ _ _ _ _ _ _ hc) xD_n)))
theorem xD_xna1 (O : xOps Hp) (t : ArrayType) (npc : Nat) (ls st : List Value) (g : Hp) (ha : ∀ t n w, O.2.2.2.2.1 g t n = some w → P w.2) : xD P (fun k => xna1 O t k npc ls st g) := by
  cases t <;> first | exact xD_xi1 _ fun x r => xD_bind _ fun w hw => xD_k _ _ _ _ (ha _ _ _ hw) | exact xD_n
theorem xD_xdup (npc : Nat) (ls st : List Value) (g : Hp) (hg : P g) : xD P (fun k => xdup k npc ls st g) := by
  match st with
  | [] => exact xD_n
  | .int _ :: _ => exact xD_k _ _ _ _ hg
  | .ref _ :: _ => exact xD_k _ _ _ _ hg
  | .null :: _ => exact xD_n
  | .long _ :: _ => exact xD_n
  | .float _ :: _ => exact xD_n
  | .double _ :: _ => exact xD_n
  | .retAddr _ :: _ => exact xD_n
set_option maxHeartbeats 4000000 in
theorem xD_exec (O : xOps Hp) (cl : Nat → List Value → Hp → Option (Int32 × Hp)) (mi : Nat) (i : Instr) (n pc : Nat) (ls st : List Value) (g : Hp) (hg : P g) (hp : ∀ a c f v g', O.2.2.1 g a c f v = some g' → P g') (hn : ∀ c w, O.2.2.2.1 g c = some w → P w.2) (ha : ∀ t n w, O.2.2.2.2.1 g t n = some w → P w.2) (hs : ∀ t a i x g', O.2.2.2.2.2.2.1 g t a i x = some g' → P g') (hc : ∀ m as w, cl m as g = some w → P w.2) : xD P (fun k => xexec O cl mi k i n pc ls st g) := by
  cases i
  case ireturn =>
    refine xD_c (xret (xry mi) st g) (fun q hq => ?_)
    cases st with
    | nil => cases hq
    | cons v rr =>
      cases rr with
      | cons v2 rr => cases v <;> cases hq
      | nil =>
        cases v with
        | int x =>
          replace hq : (bif Nat.beq (xry mi) 1 then (if x = 0 ∨ x = 1 then some (x, g) else none) else bif Nat.beq (xry mi) 0 then some (x, g) else none) = some q := hq
          cases hb1 : Nat.beq (xry mi) 1 with
          | true =>
            rw [hb1] at hq
            replace hq : (if x = 0 ∨ x = 1 then some (x, g) else none) = some q := hq
            split at hq
            · cases hq; exact hg
            · cases hq
          | false =>
            rw [hb1] at hq
            cases hb0 : Nat.beq (xry mi) 0 with
            | true => rw [hb0] at hq; cases hq; exact hg
            | false => rw [hb0] at hq; cases hq
        | _ => cases hq
  case return_ =>
    refine xD_c (xvret (xry mi) st g) (fun q hq => ?_)
    cases st with
    | cons v rr => cases hq
    | nil =>
      replace hq : (bif Nat.beq (xry mi) 2 then some (0, g) else none) = some q := hq
      cases hb2 : Nat.beq (xry mi) 2 with
      | true => rw [hb2] at hq; cases hq; exact hg
      | false => rw [hb2] at hq; cases hq
  case aload_n j => exact xD_xrf _ fun a => xD_k _ _ _ _ hg
  case aload j => exact xD_xrf _ fun a => xD_k _ _ _ _ hg
  case iload_n j => exact xD_xin _ fun a => xD_k _ _ _ _ hg
  case iload j => exact xD_xin _ fun a => xD_k _ _ _ _ hg
  case istore_n j => exact xD_xi1 _ fun x r => xD_k _ _ _ _ hg
  case istore j => exact xD_xi1 _ fun x r => xD_k _ _ _ _ hg
  case astore_n j => exact xD_xr1 _ fun x r => xD_k _ _ _ _ hg
  case astore j => exact xD_xr1 _ fun x r => xD_k _ _ _ _ hg
  case iconst v => exact xD_k _ _ _ _ hg
  case bipush v => exact xD_k _ _ _ _ hg
  case sipush v => exact xD_k _ _ _ _ hg
  case iinc j v => exact xD_xin _ fun x => xD_k _ _ _ _ hg
  case iadd => exact xD_xi2 _ fun x y r => xD_k _ _ _ _ hg
  case isub => exact xD_xi2 _ fun x y r => xD_k _ _ _ _ hg
  case imul => exact xD_xi2 _ fun x y r => xD_k _ _ _ _ hg
  case idiv => exact xD_xi2 _ fun x y r => xD_ite _ xD_n (xD_k _ _ _ _ hg)
  case irem => exact xD_xi2 _ fun x y r => xD_ite _ xD_n (xD_k _ _ _ _ hg)
  case iand => exact xD_xi2 _ fun x y r => xD_k _ _ _ _ hg
  case ior => exact xD_xi2 _ fun x y r => xD_k _ _ _ _ hg
  case ishl => exact xD_xi2 _ fun x y r => xD_k _ _ _ _ hg
  case ishr => exact xD_xi2 _ fun x y r => xD_k _ _ _ _ hg
  case iushr => exact xD_xi2 _ fun x y r => xD_k _ _ _ _ hg
  case dup => exact xD_xdup _ _ _ _ hg
  case dup2 => exact xD_xri _ fun a i r => xD_k _ _ _ _ hg
  case pop => exact xD_xi1 _ fun x r => xD_k _ _ _ _ hg
  case getfield j => exact xD_xgf _ _ _ _ _ _ hg
  case putfield j => exact xD_xpf _ _ _ _ _ _ hp
  case invokevirtual j => exact xD_xiv _ _ _ _ _ _ hg hc
  case invokespecial j => exact xD_xip _ _ _ _ _ _ hg hc
  case invokestatic j => exact xD_xis _ _ _ _ _ _ hg hc
  case new j => exact xD_bind _ fun c _ => xD_bind _ fun w hw => xD_k _ _ _ _ (hn _ _ hw)
  case newarray t => exact xD_xna1 _ _ _ _ _ _ ha
  case iaload => exact xD_xri _ fun a i r => xD_bind _ fun x _ => xD_k _ _ _ _ hg
  case baload => exact xD_xri _ fun a i r => xD_bind _ fun x _ => xD_k _ _ _ _ hg
  case iastore => exact xD_xrii _ fun a i x r => xD_bind _ fun w hw => xD_k _ _ _ _ (hs _ _ _ _ _ hw)
  case bastore => exact xD_xrii _ fun a i x r => xD_ite _ (xD_bind _ fun w hw => xD_k _ _ _ _ (hs _ _ _ _ _ hw)) xD_n
  case arraylength => exact xD_xr1 _ fun a r => xD_bind _ fun x _ => xD_k _ _ _ _ hg
  case ifCond c off => exact xD_xi1 _ fun x r => xD_xc1 _ _ (xD_xj _ _ fun t => xD_k _ _ _ _ hg) (xD_k _ _ _ _ hg)
  case if_icmp c off => exact xD_xi2 _ fun x y r => xD_xc2 _ _ _ (xD_xj _ _ fun t => xD_k _ _ _ _ hg) (xD_k _ _ _ _ hg)
  case goto off => exact xD_xj _ _ fun t => xD_k _ _ _ _ hg
  case tableswitch d lo hi offs => exact xD_xi1 _ fun x r => xD_xsw _ _ _ _ _ fun t => xD_k _ _ _ _ hg
  case lookupswitch d ps => exact xD_xi1 _ fun x r => xD_xlk _ _ _ _ fun t => xD_k _ _ _ _ hg
  all_goals exact xD_n
theorem xD_step (O : xOps Hp) (cl : Nat → List Value → Hp → Option (Int32 × Hp)) (mi pc : Nat) (ls st : List Value) (g : Hp) (hg : P g) (hp : ∀ a c f v g', O.2.2.1 g a c f v = some g' → P g') (hn : ∀ c w, O.2.2.2.1 g c = some w → P w.2) (ha : ∀ t n w, O.2.2.2.2.1 g t n = some w → P w.2) (hs : ∀ t a i x g', O.2.2.2.2.2.2.1 g t a i x = some g' → P g') (hc : ∀ m as w, cl m as g = some w → P w.2) : xD P (fun k => xstep O cl mi k pc ls st g) := by
  unfold xstep
  cases xcd mi pc with
  | none => exact xD_n
  | some q => exact xD_exec _ _ _ _ _ _ _ _ _ hg hp hn ha hs hc
theorem xD_det (O : xOps Hp) (cl : Nat → List Value → Hp → Option (Int32 × Hp)) (mi pc : Nat) (ls st : List Value) (g : Hp) : (∃ c, ∀ k, xstep O cl mi k pc ls st g = c) ∨ ∃ pc' ls' st' g', ∀ k : xK Hp, xstep O cl mi k pc ls st g = k pc' ls' st' g' := by
  rcases xD_step (P := fun _ => True) O cl mi pc ls st g trivial (fun _ _ _ _ _ _ => trivial) (fun _ _ _ => trivial) (fun _ _ _ _ => trivial) (fun _ _ _ _ _ _ => trivial) (fun _ _ _ _ => trivial) with ⟨c, -, hc⟩ | ⟨pc', ls', st', g', -, hc⟩
  · exact Or.inl ⟨c, hc⟩
  · exact Or.inr ⟨pc', ls', st', g', hc⟩
variable {O : xOps Hp} {cl : Nat → List Value → Hp → Option (Int32 × Hp)} {mi : Nat}
theorem xrun_succ {n pc : Nat} {ls st : List Value} {g : Hp} {x : Int32 × Hp} : xrun O cl mi n pc ls st g = some x → xrun O cl mi (n + 1) pc ls st g = some x := by
  induction n generalizing pc ls st g with
  | zero => intro h; cases h
  | succ n ih =>
    intro h
    rcases xD_det O cl mi pc ls st g with ⟨c, hc⟩ | ⟨pc', ls', st', g', hc⟩
    · replace hc : ∀ k, xstep O cl mi k pc ls st g = c := hc
      have h1 : xstep O cl mi (xrun O cl mi n) pc ls st g = some x := h
      rw [hc] at h1
      show xstep O cl mi (xrun O cl mi (n + 1)) pc ls st g = some x
      rw [hc, h1]
    · replace hc : ∀ k : xK Hp, xstep O cl mi k pc ls st g = k pc' ls' st' g' := hc
      have h1 : xstep O cl mi (xrun O cl mi n) pc ls st g = some x := h
      rw [hc] at h1
      show xstep O cl mi (xrun O cl mi (n + 1)) pc ls st g = some x
      rw [hc]
      exact ih h1
theorem xrun_le {n n' pc : Nat} {ls st : List Value} {g : Hp} {x : Int32 × Hp} (hn : n ≤ n') (h : xrun O cl mi n pc ls st g = some x) : xrun O cl mi n' pc ls st g = some x := by
  induction hn with
  | refl => exact h
  | step _ ih => exact xrun_succ ih
theorem xruns_iff {pc : Nat} {ls st : List Value} {g : Hp} {x : Int32 × Hp} : xruns O cl mi pc ls st g = some x ↔ ∃ n, xrun O cl mi n pc ls st g = some x := by
  unfold xruns
  by_cases h : ∃ n, (xrun O cl mi n pc ls st g).isSome = true
  · rw [dif_pos h]
    constructor
    · exact fun e => ⟨_, e⟩
    · rintro ⟨n, e⟩
      obtain ⟨y, hy⟩ := Option.isSome_iff_exists.mp (Classical.choose_spec h)
      rcases Nat.le_total n (Classical.choose h) with q | q
      · exact xrun_le q e
      · rw [hy]
        exact (xrun_le q hy).symm.trans e
  · rw [dif_neg h]
    constructor
    · intro e; cases e
    · rintro ⟨n, e⟩
      exact absurd ⟨n, by rw [e]; rfl⟩ h
theorem xruns_eq (pc : Nat) (ls st : List Value) (g : Hp) : xruns O cl mi pc ls st g = xstep O cl mi (xruns O cl mi) pc ls st g := by
  rcases xD_det O cl mi pc ls st g with ⟨c, hc⟩ | ⟨pc', ls', st', g', hc⟩
  · replace hc : ∀ k, xstep O cl mi k pc ls st g = c := hc
    rw [hc]
    apply Option.ext
    intro x
    rw [xruns_iff]
    constructor
    · rintro ⟨n, e⟩
      cases n with
      | zero => cases e
      | succ n => rw [← hc (xrun O cl mi n)]; exact e
    · intro e
      exact ⟨1, (hc (xrun O cl mi 0)).trans e⟩
  · replace hc : ∀ k : xK Hp, xstep O cl mi k pc ls st g = k pc' ls' st' g' := hc
    rw [hc]
    apply Option.ext
    intro x
    rw [xruns_iff, xruns_iff]
    constructor
    · rintro ⟨n, e⟩
      cases n with
      | zero => cases e
      | succ n => exact ⟨n, (hc (xrun O cl mi n)).symm.trans e⟩
    · rintro ⟨n, e⟩
      exact ⟨n + 1, (hc (xrun O cl mi n)).trans e⟩
end
section
variable {Hp : Type}
def xit (O : xOps Hp) (cl : Nat → List Value → Hp → Option (Int32 × Hp)) (mi : Nat) (k : xK Hp) : Nat → xK Hp
  | 0 => k
  | n + 1 => xstep O cl mi (xit O cl mi k n)
theorem xruns_it {O : xOps Hp} {cl : Nat → List Value → Hp → Option (Int32 × Hp)} {mi : Nat} (n : Nat) (pc : Nat) (ls st : List Value) (g : Hp) : xruns O cl mi pc ls st g = xit O cl mi (xruns O cl mi) n pc ls st g := by
  have h : ∀ n, xit O cl mi (xruns O cl mi) n = xruns O cl mi := by
    intro n
    induction n with
    | zero => rfl
    | succ n ih =>
      funext pc ls st g
      show xstep O cl mi (xit O cl mi (xruns O cl mi) n) pc ls st g = _
      rw [ih]
      exact (xruns_eq pc ls st g).symm
  rw [h n]
end
