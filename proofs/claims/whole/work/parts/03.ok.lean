/-! WHAT THE TABLES MUST BE, and that they are -/
def xwf (i : Instr) (n : Nat) : Bool := match i with
  | .aload_n _ => Nat.beq n 1
  | .aload _ => Nat.beq n 2
  | .iload_n _ => Nat.beq n 1
  | .iload _ => Nat.beq n 2
  | .istore_n _ => Nat.beq n 1
  | .istore _ => Nat.beq n 2
  | .astore_n _ => Nat.beq n 1
  | .astore _ => Nat.beq n 2
  | .iconst _ => Nat.beq n 1
  | .bipush v => Nat.beq n 2 && decide (-128 ≤ v) && decide (v ≤ 127)
  | .sipush v => Nat.beq n 3 && decide (-32768 ≤ v) && decide (v ≤ 32767)
  | .iinc _ _ => Nat.beq n 3
  | .getfield _ => Nat.beq n 3
  | .putfield _ => Nat.beq n 3
  | .invokevirtual _ => Nat.beq n 3
  | .invokespecial _ => Nat.beq n 3
  | .invokestatic _ => Nat.beq n 3
  | .new _ => Nat.beq n 3
  | .newarray _ => Nat.beq n 2
  | .ifCond _ _ => Nat.beq n 3
  | .if_icmp _ _ => Nat.beq n 3
  | .goto _ => Nat.beq n 3
  | .tableswitch _ lo hi offs => decide (lo = 0) && decide (hi + 1 = (offs.size : Int)) && Nat.ble offs.size 100
  | .lookupswitch _ ps => (ps.toList.zip (ps.toList.drop 1)).all (fun (a, next) => a.1 < next.1) && ps.toList.all (fun q => decide (0 ≤ q.1) && decide (q.1 ≤ 100))
  | _ => Nat.beq n 1
/-- the field types that the tables name -/
def xft (t : Nat) (d : String) : Bool := match t with
  | 0 => d == "I"
  | 1 => d == "Z"
  | _ => match parseFieldDescriptor d with
    | some (.object _) => true
    | some (.array _) => true
    | _ => false
def xT (c k : Nat) : String × String × String × Bool := (bif Nat.beq c 0 then TX0 else bif Nat.beq c 1 then TX1 else bif Nat.beq c 2 then TX2 else bif Nat.beq c 3 then TX3 else bif Nat.beq c 4 then TX4 else bif Nat.beq c 5 then TX5 else bif Nat.beq c 6 then TX6 else bif Nat.beq c 7 then TX7 else TX8) k
def xN (c : Nat) : Nat := (xdf c).length
def xchk (mi pc : Nat) : Bool := match xcd mi pc with
  | none => true
  | some (i, n) => xwf i n && decide (decode (xB mi) pc = .ok (i, n)) && (match i with
    | .putfield j => (match xfl (xoc mi) j with
      | some (c, k, _) => bif (xT c k).2.2.2 then Nat.beq c (xoc mi) && ((xY mi).name == "<init>") else true
      | none => true)
    | _ => true)
def xmok (mi : Nat) : Bool := (xY mi).cls == xRN (xoc mi) && Nat.ble (xmx mi) 11 && plainName (xY mi).cls && ((parseMethodDescriptor (xY mi).desc).map (fun d => d.parameters.length) == some (xna mi)) && (match xry mi with
  | 0 => xrt mi == some .int
  | 1 => xrt mi == some .boolean
  | _ => xrt mi == none) && Nat.ble (xna mi + (bif xst mi then 0 else 1)) (xmx mi)
def xat (i : Nat) (w : Cond) : Bool := decide (lw_tbl[i]? = some w)
theorem xat_in {i : Nat} {w : Cond} (h : xat i w = true) : w ∈ lw_tbl := List.mem_of_getElem? (of_decide_eq_true h)
def xatN (i : Option Nat) (w : Cond) : Bool := match i with
  | some i => xat i w
  | none => false
theorem xatN_in {i : Option Nat} {w : Cond} (h : xatN i w = true) : w ∈ lw_tbl := by
  cases i with
  | none => cases h
  | some i => exact xat_in h
def xflok (c i : Nat) : Bool := match xfl c i with
  | none => true
  | some (d, k, t) => Nat.ble d 8 && Nat.blt k (xN d) && xft t (xT d k).2.2.1 && xatN (xflp c i) (Cond.fieldLink (xRN c) i (xRN d) (xT d k).2.1 (xT d k).2.2.1)
def xmtok (c i : Nat) : Bool := match xmt c i with
  | none => true
  | some (t, m, a) => match t with
    | 0 => Nat.ble m 163 && Nat.beq a (xna m) && (xst m == false) && xatN (xmtp c i) (Cond.methodLink (xRN c) i (xY m)) && xat (xinp m) (Cond.instanceMethod (xY m)) && xat (xsep m) (Cond.selects (xRN (xoc m)) (xY m) (xY m))
    | 1 => Nat.ble m 163 && Nat.beq a (xna m) && xst m && xatN (xmtp c i) (Cond.methodLink (xRN c) i (xY m)) && xat (xstp m) (Cond.static (xY m))
    | 2 => Nat.ble m 163 && Nat.beq a (xna m) && (xst m == false) && ((xY m).name == "<init>") && Nat.beq (xry m) 2 && xatN (xmtp c i) (Cond.methodLink (xRN c) i (xY m)) && xat (xinp m) (Cond.instanceMethod (xY m))
    | 3 => xatN (xmtp c i) (Cond.methodLink (xRN c) i objectInit)
    | 4 => xatN (xmtp c i) (Cond.methodLink (xRN c) i Lib.Math.max.name)
    | 5 => xatN (xmtp c i) (Cond.methodLink (xRN c) i Lib.Math.min.name)
    | 6 => Nat.ble m 163 && Nat.beq a (xna m) && xst m && xatN (xmtp c i) (Cond.methodLinkNest (xRN c) i (xY m) "HighlightPlaces") && xat (xstp m) (Cond.static (xY m))
    | _ => false
def xcnok (c i : Nat) : Bool := match xcn c i with
  | none => true
  | some d => Nat.ble d 8 && xatN (xcnp c i) (Cond.classLink (xRN c) i (xRN d))
def xkok (c : Nat) : Bool := decide (Cond.instantiable (xRN c) (xN c) ∈ lw_tbl) && (u_ws (xRN c) (xT c) (xN c)).all (fun w => decide (w ∈ lw_tbl))
def xiok (c : Nat) : Bool := xat (xiip c) (Cond.initialized (xRN c))
set_option maxRecDepth 100000 in
theorem xmok_all : (List.range 165).all xmok = true := by decide +kernel
set_option maxRecDepth 100000 in
theorem xflok_all : (List.range 10).all (fun c => (List.range 600).all (xflok c)) = true := by decide +kernel
set_option maxRecDepth 100000 in
theorem xmtok_all : (List.range 10).all (fun c => (List.range 600).all (xmtok c)) = true := by decide +kernel
set_option maxRecDepth 100000 in
theorem xcnok_all : (List.range 10).all (fun c => (List.range 600).all (xcnok c)) = true := by decide +kernel
set_option maxRecDepth 100000 in
theorem xkok_all : (List.range 9).all xkok = true := by decide +kernel
set_option maxRecDepth 100000 in
theorem xiok_all : (List.range 10).all xiok = true := by decide +kernel
