/-! THE ABSTRACT MACHINE: the instructions that the program uses, over any kind of heap (its operations: xOps), calls by an oracle 'cl', what comes next by a continuation 'k'. -/
def xnth : List Value → Nat → Value
  | [], _ => .null
  | v :: _, 0 => v
  | _ :: l, n + 1 => xnth l n
def xset : List Value → Nat → Value → List Value
  | [], _, _ => []
  | _ :: l, 0, w => w :: l
  | v :: l, n + 1, w => v :: xset l n w
def xpop : Nat → List Value → List Value → Option (List Value × List Value)
  | 0, st, acc => some (acc, st)
  | n + 1, v :: st, acc => xpop n st (v :: acc)
  | _ + 1, [], _ => none
def xcat : List Value → Bool
  | [] => true
  | .int _ :: l => xcat l
  | .ref _ :: l => xcat l
  | _ => false
def xgd (r : List Value) : Bool := Nat.ble r.length 8 && xcat r
def xlit (v : Int) : Int32 := match v with
  | .ofNat n => Int32.ofNat n
  | .negSucc n => -(Int32.ofNat (n + 1))
/-- getfield of an int, of a reference; putfield; new; newarray; a load, a store; a length; the class of an object -/
abbrev xOps (Hp : Type) : Type := (Hp → Nat → Nat → Nat → Option Int32) × (Hp → Nat → Nat → Nat → Option Nat) × (Hp → Nat → Nat → Nat → Value → Option Hp) × (Hp → Nat → Option (Nat × Hp)) × (Hp → Nat → Int32 → Option (Nat × Hp)) × (Hp → Nat → Nat → Int32 → Option Int32) × (Hp → Nat → Nat → Int32 → Int32 → Option Hp) × (Hp → Nat → Option Int32) × (Hp → Nat → Nat → Bool)
section
variable {Hp : Type}
abbrev xK (Hp : Type) : Type := Nat → List Value → List Value → Hp → Option (Int32 × Hp)
def xin (v : Value) (f : Int32 → Option (Int32 × Hp)) : Option (Int32 × Hp) := match v with
  | .int x => f x
  | _ => none
def xrf (v : Value) (f : Nat → Option (Int32 × Hp)) : Option (Int32 × Hp) := match v with
  | .ref a => f a
  | _ => none
def xi1 (st : List Value) (f : Int32 → List Value → Option (Int32 × Hp)) : Option (Int32 × Hp) := match st with
  | .int x :: r => f x r
  | _ => none
def xi2 (st : List Value) (f : Int32 → Int32 → List Value → Option (Int32 × Hp)) : Option (Int32 × Hp) := match st with
  | .int y :: .int x :: r => f x y r
  | _ => none
def xr1 (st : List Value) (f : Nat → List Value → Option (Int32 × Hp)) : Option (Int32 × Hp) := match st with
  | .ref a :: r => f a r
  | _ => none
def xri (st : List Value) (f : Nat → Int32 → List Value → Option (Int32 × Hp)) : Option (Int32 × Hp) := match st with
  | .int i :: .ref a :: r => f a i r
  | _ => none
def xrr (st : List Value) (f : Nat → Nat → List Value → Option (Int32 × Hp)) : Option (Int32 × Hp) := match st with
  | .ref b :: .ref a :: r => f a b r
  | _ => none
def xrii (st : List Value) (f : Nat → Int32 → Int32 → List Value → Option (Int32 × Hp)) : Option (Int32 × Hp) := match st with
  | .int x :: .int i :: .ref a :: r => f a i x r
  | _ => none
def xj (pc : Nat) (off : Int) (f : Nat → Option (Int32 × Hp)) : Option (Int32 × Hp) := match (pc : Int) + off with
  | .ofNat t => f t
  | .negSucc _ => none
def xsw (x : Int32) : Int → List Int → Nat → Int → (Nat → Option (Int32 × Hp)) → Option (Int32 × Hp)
  | _, [], pc, d, f => xj pc d f
  | lo, o :: os, pc, d, f => if x = xlit lo then xj pc o f else xsw x (lo + 1) os pc d f
def xlk (x : Int32) : List (Int × Int) → Nat → Int → (Nat → Option (Int32 × Hp)) → Option (Int32 × Hp)
  | [], pc, d, f => xj pc d f
  | (v, o) :: os, pc, d, f => if x = xlit v then xj pc o f else xlk x os pc d f
def xpu (t : Nat) (x : Int32) (r : List Value) : List Value := bif Nat.beq t 2 then r else .int x :: r
def xcl (cl : Nat → List Value → Hp → Option (Int32 × Hp)) (k : xK Hp) (m a npc : Nat) (ls st : List Value) (g : Hp) : Option (Int32 × Hp) := match xpop a st [] with
  | some (as, r) => bif xgd r then (cl m as g).bind fun w => k npc ls (xpu (xry m) w.1 r) w.2 else none
  | none => none
def xc1 (c : Jvm.ClassFile.Cond) (x : Int32) (A B : Option (Int32 × Hp)) : Option (Int32 × Hp) := match c with
  | .eq => if x = 0 then A else B
  | .ne => if x = 0 then B else A
  | .lt => if x < 0 then A else B
  | .ge => if 0 ≤ x then A else B
  | .gt => if 0 < x then A else B
  | .le => if x ≤ 0 then A else B
def xc2 (c : Jvm.ClassFile.Cond) (x y : Int32) (A B : Option (Int32 × Hp)) : Option (Int32 × Hp) := match c with
  | .eq => if x = y then A else B
  | .ne => if x = y then B else A
  | .lt => if x < y then A else B
  | .ge => if y ≤ x then A else B
  | .gt => if y < x then A else B
  | .le => if x ≤ y then A else B
def xgf (O : xOps Hp) (q : Option (Nat × Nat × Nat)) (k : xK Hp) (npc : Nat) (ls st : List Value) (g : Hp) : Option (Int32 × Hp) := match q with
  | some (c, f, t) => xr1 st fun a r => bif Nat.beq t 2 then (O.2.1 g a c f).bind fun b => k npc ls (.ref b :: r) g else (O.1 g a c f).bind fun x => k npc ls (.int x :: r) g
  | none => none
def xpf (O : xOps Hp) (q : Option (Nat × Nat × Nat)) (k : xK Hp) (npc : Nat) (ls st : List Value) (g : Hp) : Option (Int32 × Hp) := match q with
  | some (c, f, t) => bif Nat.beq t 2 then (xrr st fun a b r => (O.2.2.1 g a c f (.ref b)).bind fun g' => k npc ls r g')
      else bif Nat.beq t 1 then (xri st fun a x r => if x = 0 ∨ x = 1 then (O.2.2.1 g a c f (.int x)).bind fun g' => k npc ls r g' else none)
      else (xri st fun a x r => (O.2.2.1 g a c f (.int x)).bind fun g' => k npc ls r g')
  | none => none
def xiv (cl : Nat → List Value → Hp → Option (Int32 × Hp)) (q : Option (Nat × Nat × Nat)) (k : xK Hp) (npc : Nat) (ls st : List Value) (g : Hp) : Option (Int32 × Hp) := match q with
  | some (t, m, a) => bif Nat.beq t 0 then xcl cl k m (a + 1) npc ls st g else none
  | none => none
def xip (cl : Nat → List Value → Hp → Option (Int32 × Hp)) (q : Option (Nat × Nat × Nat)) (k : xK Hp) (npc : Nat) (ls st : List Value) (g : Hp) : Option (Int32 × Hp) := match q with
  | some (t, m, a) => bif Nat.beq t 3 then (xr1 st fun _ r => bif xgd r then k npc ls r g else none) else bif Nat.beq t 2 then xcl cl k m (a + 1) npc ls st g else none
  | none => none
def xis (cl : Nat → List Value → Hp → Option (Int32 × Hp)) (q : Option (Nat × Nat × Nat)) (k : xK Hp) (npc : Nat) (ls st : List Value) (g : Hp) : Option (Int32 × Hp) := match q with
  | some (t, m, a) => bif Nat.beq t 4 then (xi2 st fun x y r => bif xgd r then k npc ls (.int (if x < y then y else x) :: r) g else none)
      else bif Nat.beq t 5 then (xi2 st fun x y r => bif xgd r then k npc ls (.int (if y < x then y else x) :: r) g else none)
      else bif Nat.beq t 1 then xcl cl k m a npc ls st g else bif Nat.beq t 6 then xcl cl k m a npc ls st g else none
  | none => none
def xna1 (O : xOps Hp) (t : ArrayType) (k : xK Hp) (npc : Nat) (ls st : List Value) (g : Hp) : Option (Int32 × Hp) := match t with
  | .int => xi1 st fun x r => (O.2.2.2.2.1 g 0 x).bind fun w => k npc ls (.ref w.1 :: r) w.2
  | .boolean => xi1 st fun x r => (O.2.2.2.2.1 g 1 x).bind fun w => k npc ls (.ref w.1 :: r) w.2
  | _ => none
def xdup (k : xK Hp) (npc : Nat) (ls st : List Value) (g : Hp) : Option (Int32 × Hp) := match st with
  | .int x :: r => k npc ls (.int x :: .int x :: r) g
  | .ref a :: r => k npc ls (.ref a :: .ref a :: r) g
  | _ => none
def xret (t : Nat) (st : List Value) (g : Hp) : Option (Int32 × Hp) := match st with
  | [.int x] => bif Nat.beq t 1 then (if x = 0 ∨ x = 1 then some (x, g) else none) else bif Nat.beq t 0 then some (x, g) else none
  | _ => none
def xvret (t : Nat) (st : List Value) (g : Hp) : Option (Int32 × Hp) := match st with
  | [] => bif Nat.beq t 2 then some (0, g) else none
  | _ => none
def xexec (O : xOps Hp) (cl : Nat → List Value → Hp → Option (Int32 × Hp)) (mi : Nat) (k : xK Hp) (i : Instr) (n pc : Nat) (ls st : List Value) (g : Hp) : Option (Int32 × Hp) := match i with
  | .aload_n j => xrf (xnth ls j) fun a => k (pc + n) ls (.ref a :: st) g
  | .aload j => xrf (xnth ls j) fun a => k (pc + n) ls (.ref a :: st) g
  | .iload_n j => xin (xnth ls j) fun x => k (pc + n) ls (.int x :: st) g
  | .iload j => xin (xnth ls j) fun x => k (pc + n) ls (.int x :: st) g
  | .istore_n j => xi1 st fun x r => k (pc + n) (xset ls j (.int x)) r g
  | .istore j => xi1 st fun x r => k (pc + n) (xset ls j (.int x)) r g
  | .astore_n j => xr1 st fun a r => k (pc + n) (xset ls j (.ref a)) r g
  | .astore j => xr1 st fun a r => k (pc + n) (xset ls j (.ref a)) r g
  | .iconst v => k (pc + n) ls (.int (xlit v) :: st) g
  | .bipush v => k (pc + n) ls (.int (xlit v) :: st) g
  | .sipush v => k (pc + n) ls (.int (xlit v) :: st) g
  | .iinc j v => xin (xnth ls j) fun x => k (pc + n) (xset ls j (.int (x + xlit v))) st g
  | .iadd => xi2 st fun x y r => k (pc + n) ls (.int (x + y) :: r) g
  | .isub => xi2 st fun x y r => k (pc + n) ls (.int (x - y) :: r) g
  | .imul => xi2 st fun x y r => k (pc + n) ls (.int (x * y) :: r) g
  | .idiv => xi2 st fun x y r => if y = 0 then none else k (pc + n) ls (.int (x / y) :: r) g
  | .irem => xi2 st fun x y r => if y = 0 then none else k (pc + n) ls (.int (x - x / y * y) :: r) g
  | .iand => xi2 st fun x y r => k (pc + n) ls (.int (x &&& y) :: r) g
  | .ior => xi2 st fun x y r => k (pc + n) ls (.int (x ||| y) :: r) g
  | .ishl => xi2 st fun x y r => k (pc + n) ls (.int (x <<< (y &&& 31)) :: r) g
  | .ishr => xi2 st fun x y r => k (pc + n) ls (.int (x >>> (y &&& 31)) :: r) g
  | .iushr => xi2 st fun x y r => k (pc + n) ls (.int ((x.toUInt32 >>> (y.toUInt32 &&& Int32.toUInt32 31)).toInt32) :: r) g
  | .dup => xdup k (pc + n) ls st g
  | .dup2 => xri st fun a i r => k (pc + n) ls (.int i :: .ref a :: .int i :: .ref a :: r) g
  | .pop => xi1 st fun _ r => k (pc + n) ls r g
  | .getfield j => xgf O (xfl (xoc mi) j) k (pc + n) ls st g
  | .putfield j => xpf O (xfl (xoc mi) j) k (pc + n) ls st g
  | .invokevirtual j => xiv cl (xmt (xoc mi) j) k (pc + n) ls st g
  | .invokespecial j => xip cl (xmt (xoc mi) j) k (pc + n) ls st g
  | .invokestatic j => xis cl (xmt (xoc mi) j) k (pc + n) ls st g
  | .new j => (xcn (xoc mi) j).bind fun c => (O.2.2.2.1 g c).bind fun w => k (pc + n) ls (.ref w.1 :: st) w.2
  | .newarray t => xna1 O t k (pc + n) ls st g
  | .iaload => xri st fun a i r => (O.2.2.2.2.2.1 g 0 a i).bind fun x => k (pc + n) ls (.int x :: r) g
  | .baload => xri st fun a i r => (O.2.2.2.2.2.1 g 1 a i).bind fun x => k (pc + n) ls (.int x :: r) g
  | .iastore => xrii st fun a i x r => (O.2.2.2.2.2.2.1 g 0 a i x).bind fun g' => k (pc + n) ls r g'
  | .bastore => xrii st fun a i x r => if x = 0 ∨ x = 1 then (O.2.2.2.2.2.2.1 g 1 a i x).bind fun g' => k (pc + n) ls r g' else none
  | .arraylength => xr1 st fun a r => (O.2.2.2.2.2.2.2.1 g a).bind fun x => k (pc + n) ls (.int x :: r) g
  | .ifCond c off => xi1 st fun x r => xc1 c x (xj pc off fun t => k t ls r g) (k (pc + n) ls r g)
  | .if_icmp c off => xi2 st fun x y r => xc2 c x y (xj pc off fun t => k t ls r g) (k (pc + n) ls r g)
  | .goto off => xj pc off fun t => k t ls st g
  | .tableswitch d lo _ offs => xi1 st fun x r => xsw x lo offs.toList pc d fun t => k t ls r g
  | .lookupswitch d ps => xi1 st fun x r => xlk x ps.toList pc d fun t => k t ls r g
  | .ireturn => xret (xry mi) st g
  | .return_ => xvret (xry mi) st g
  | _ => none
def xstep (O : xOps Hp) (cl : Nat → List Value → Hp → Option (Int32 × Hp)) (mi : Nat) (k : xK Hp) : xK Hp := fun pc ls st g => match xcd mi pc with
  | some q => xexec O cl mi k q.1 q.2 pc ls st g
  | none => none
def xrun (O : xOps Hp) (cl : Nat → List Value → Hp → Option (Int32 × Hp)) (mi : Nat) : Nat → xK Hp
  | 0 => fun _ _ _ _ => none
  | n + 1 => xstep O cl mi (xrun O cl mi n)
noncomputable def xruns (O : xOps Hp) (cl : Nat → List Value → Hp → Option (Int32 × Hp)) (mi : Nat) : xK Hp := fun pc ls st g =>
  @dite _ (∃ n, (xrun O cl mi n pc ls st g).isSome = true) (Classical.propDecidable _) (fun h => xrun O cl mi (Classical.choose h) pc ls st g) (fun _ => none)
def xrc (O : xOps Hp) (m : Nat) (as : List Value) (g : Hp) : Bool := xcat as && Nat.ble as.length (xmx m) && (bif xst m then true else match as with
  | .ref a :: _ => O.2.2.2.2.2.2.2.2 g a (xoc m)
  | _ => false)
noncomputable def xden (O : xOps Hp) (pr : Nat → Nat → List Value → Hp → Option (Option (Int32 × Hp))) : Nat → Nat → List Value → Hp → Option (Int32 × Hp)
  | 0 => fun _ _ _ => none
  | d + 1 => fun m as g => match pr (d + 1) m as g with
    | some o => o
    | none => bif xrc O m as g then xruns O (xden O pr d) m 0 (as ++ List.replicate (xmx m - as.length) .null) [] g else none
end
