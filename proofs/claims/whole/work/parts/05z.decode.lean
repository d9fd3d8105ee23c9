set_option maxRecDepth 100000 in
theorem xdc {mi : Nat} (h : mi ≤ 164) : (List.range (xbd mi)).all (xchk mi) = true := by
  have h1 : mi ∈ [0, 1, 2, 3, 4, 5, 6, 7, 8, 9, 10, 11, 12, 13, 14, 15, 16, 17] ++ [18, 19, 20, 21, 22, 23, 24, 25, 26, 27, 28, 29, 30, 31] ++ [32, 33, 34, 35, 36, 37, 38, 39, 40, 41, 42, 43, 44, 45, 46, 47] ++ [48, 49, 50, 51, 52, 53, 54, 55, 56, 57, 58, 59, 60, 61, 62, 63, 64, 65, 66, 67, 68, 69, 70, 71, 72, 73] ++ [74, 75, 76, 77, 78, 79, 80, 81, 82, 83, 84, 85, 86, 87, 88, 89, 90] ++ [91, 92, 93, 94, 95, 96, 97, 98, 99, 100, 101, 102, 103, 104, 105, 106, 107, 108, 109] ++ [110, 111, 112, 113, 114, 115, 116, 117, 118, 119] ++ [120, 121, 122, 123, 124, 125, 126, 127, 128, 129, 130, 131] ++ [132, 133, 134, 135, 136, 137, 138, 139, 140, 141] ++ [142, 143, 144, 145, 146, 147, 148, 149, 150, 151, 152, 153, 154, 155] ++ [156, 157, 158, 159, 160, 161, 162, 163, 164] := (List.mem_range (n := 165)).mpr (Nat.lt_succ_of_le h)
  simp only [List.mem_append] at h1
  rcases h1 with ((((((((((h1 | h1) | h1) | h1) | h1) | h1) | h1) | h1) | h1) | h1) | h1)
  · exact List.all_eq_true.mp xdc_0 mi h1
  · exact List.all_eq_true.mp xdc_1 mi h1
  · exact List.all_eq_true.mp xdc_2 mi h1
  · exact List.all_eq_true.mp xdc_3 mi h1
  · exact List.all_eq_true.mp xdc_4 mi h1
  · exact List.all_eq_true.mp xdc_5 mi h1
  · exact List.all_eq_true.mp xdc_6 mi h1
  · exact List.all_eq_true.mp xdc_7 mi h1
  · exact List.all_eq_true.mp xdc_8 mi h1
  · exact List.all_eq_true.mp xdc_9 mi h1
  · exact List.all_eq_true.mp xdc_10 mi h1
theorem xcd_some {mi pc : Nat} {q : Instr × Nat} (h : xcd mi pc = some q) : mi ≤ 164 ∧ pc < xbd mi := by
  unfold xcd at h
  cases h1 : (Nat.ble mi 164 && Nat.blt pc (xbd mi)) with
  | false => rw [h1] at h; cases h
  | true =>
    simp only [Bool.and_eq_true] at h1
    exact ⟨Nat.le_of_ble_eq_true h1.1, Nat.le_of_ble_eq_true h1.2⟩
theorem xchk_of {mi pc : Nat} {q : Instr × Nat} (h : xcd mi pc = some q) : xchk mi pc = true := by
  obtain ⟨h1, h2⟩ := xcd_some h
  exact List.all_eq_true.mp (xdc h1) pc (List.mem_range.mpr h2)
/-- stores are to locals that there are -/
def xsok (mi pc : Nat) : Bool := match xcd mi pc with
  | some (.istore_n j, _) => Nat.blt j (xmx mi)
  | some (.istore j, _) => Nat.blt j (xmx mi)
  | some (.astore_n j, _) => Nat.blt j (xmx mi)
  | some (.astore j, _) => Nat.blt j (xmx mi)
  | _ => true
set_option maxRecDepth 100000 in
theorem xsok_all : (List.range 165).all (fun mi => (List.range (xbd mi)).all (xsok mi)) = true := by decide +kernel
theorem xsok_of {mi pc : Nat} {q : Instr × Nat} (h : xcd mi pc = some q) : xsok mi pc = true := by
  obtain ⟨h1, h2⟩ := xcd_some h
  exact List.all_eq_true.mp (List.all_eq_true.mp xsok_all mi (List.mem_range.mpr (Nat.lt_succ_of_le h1))) pc (List.mem_range.mpr h2)
set_option maxRecDepth 100000 in
theorem xdecl_all : (List.range 9).all (fun c => (List.range (xN c)).all (fun k => ((xT c k).1 == xRN c) && goodWord (u_lay (xRN c) (xT c) k))) = true := by decide +kernel

