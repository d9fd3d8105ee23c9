/-! calls at level 2: entries (N), fields. Written by wip/whole/mk46.py -/
section
variable {L d : Nat} {z : zS}
theorem N1 (a0 : Nat) (h : zob a0 0 = true) : zden L (d + 1) 1 [.ref a0] z = xruns (O2 L) (zden L d) 1 0 [.ref a0] [] z := by
  show (bif (true && true && zob a0 0) then _ else none) = _
  rw [h]
  rfl
theorem N2 (a0 : Nat) (a1 : Nat) (x2 : Int32) (h : zob a0 0 = true) : zden L (d + 1) 2 [.ref a0, .ref a1, .int x2] z = xruns (O2 L) (zden L d) 2 0 [.ref a0, .ref a1, .int x2, .null] [] z := by
  show (bif (true && true && zob a0 0) then _ else none) = _
  rw [h]
  rfl
theorem N3 (a0 : Nat) (a1 : Nat) (h : zob a0 0 = true) : zden L (d + 1) 3 [.ref a0, .ref a1] z = xruns (O2 L) (zden L d) 3 0 [.ref a0, .ref a1, .null, .null, .null] [] z := by
  show (bif (true && true && zob a0 0) then _ else none) = _
  rw [h]
  rfl
theorem N4 (a0 : Nat) (h : zob a0 0 = true) : zden L (d + 1) 4 [.ref a0] z = xruns (O2 L) (zden L d) 4 0 [.ref a0, .null] [] z := by
  show (bif (true && true && zob a0 0) then _ else none) = _
  rw [h]
  rfl
theorem N6 (a0 : Nat) (h : zob a0 1 = true) : zden L (d + 1) 6 [.ref a0] z = xruns (O2 L) (zden L d) 6 0 [.ref a0] [] z := by
  show (bif (true && true && zob a0 1) then _ else none) = _
  rw [h]
  rfl
theorem N7 (a0 : Nat) (x1 : Int32) (h : zob a0 1 = true) : zden L (d + 1) 7 [.ref a0, .int x1] z = xruns (O2 L) (zden L d) 7 0 [.ref a0, .int x1] [] z := by
  show (bif (true && true && zob a0 1) then _ else none) = _
  rw [h]
  rfl
theorem N8 (a0 : Nat) (x1 : Int32) (h : zob a0 1 = true) : zden L (d + 1) 8 [.ref a0, .int x1] z = xruns (O2 L) (zden L d) 8 0 [.ref a0, .int x1] [] z := by
  show (bif (true && true && zob a0 1) then _ else none) = _
  rw [h]
  rfl
theorem N9 (a0 : Nat) (x1 : Int32) (h : zob a0 1 = true) : zden L (d + 1) 9 [.ref a0, .int x1] z = xruns (O2 L) (zden L d) 9 0 [.ref a0, .int x1] [] z := by
  show (bif (true && true && zob a0 1) then _ else none) = _
  rw [h]
  rfl
theorem N10 (a0 : Nat) (x1 : Int32) (h : zob a0 1 = true) : zden L (d + 1) 10 [.ref a0, .int x1] z = xruns (O2 L) (zden L d) 10 0 [.ref a0, .int x1] [] z := by
  show (bif (true && true && zob a0 1) then _ else none) = _
  rw [h]
  rfl
theorem N11 (a0 : Nat) (h : zob a0 1 = true) : zden L (d + 1) 11 [.ref a0] z = xruns (O2 L) (zden L d) 11 0 [.ref a0, .null, .null, .null] [] z := by
  show (bif (true && true && zob a0 1) then _ else none) = _
  rw [h]
  rfl
theorem N12 (a0 : Nat) (x1 : Int32) (h : zob a0 1 = true) : zden L (d + 1) 12 [.ref a0, .int x1] z = xruns (O2 L) (zden L d) 12 0 [.ref a0, .int x1, .null, .null, .null] [] z := by
  show (bif (true && true && zob a0 1) then _ else none) = _
  rw [h]
  rfl
theorem N13 (a0 : Nat) (x1 : Int32) (x2 : Int32) (h : zob a0 1 = true) : zden L (d + 1) 13 [.ref a0, .int x1, .int x2] z = xruns (O2 L) (zden L d) 13 0 [.ref a0, .int x1, .int x2, .null, .null, .null, .null] [] z := by
  show (bif (true && true && zob a0 1) then _ else none) = _
  rw [h]
  rfl
theorem N14 (a0 : Nat) (x1 : Int32) (x2 : Int32) (x3 : Int32) (x4 : Int32) (h : zob a0 1 = true) : zden L (d + 1) 14 [.ref a0, .int x1, .int x2, .int x3, .int x4] z = xruns (O2 L) (zden L d) 14 0 [.ref a0, .int x1, .int x2, .int x3, .int x4, .null] [] z := by
  show (bif (true && true && zob a0 1) then _ else none) = _
  rw [h]
  rfl
theorem N15 (a0 : Nat) (x1 : Int32) (x2 : Int32) (h : zob a0 1 = true) : zden L (d + 1) 15 [.ref a0, .int x1, .int x2] z = xruns (O2 L) (zden L d) 15 0 [.ref a0, .int x1, .int x2, .null, .null, .null, .null] [] z := by
  show (bif (true && true && zob a0 1) then _ else none) = _
  rw [h]
  rfl
theorem N16 (a0 : Nat) (x1 : Int32) (x2 : Int32) (x3 : Int32) (h : zob a0 1 = true) : zden L (d + 1) 16 [.ref a0, .int x1, .int x2, .int x3] z = xruns (O2 L) (zden L d) 16 0 [.ref a0, .int x1, .int x2, .int x3, .null, .null, .null] [] z := by
  show (bif (true && true && zob a0 1) then _ else none) = _
  rw [h]
  rfl
theorem N17 (a0 : Nat) (x1 : Int32) (x2 : Int32) (h : zob a0 1 = true) : zden L (d + 1) 17 [.ref a0, .int x1, .int x2] z = xruns (O2 L) (zden L d) 17 0 [.ref a0, .int x1, .int x2, .null, .null, .null, .null] [] z := by
  show (bif (true && true && zob a0 1) then _ else none) = _
  rw [h]
  rfl
theorem N18 (a0 : Nat) (x1 : Int32) (x2 : Int32) (h : zob a0 1 = true) : zden L (d + 1) 18 [.ref a0, .int x1, .int x2] z = xruns (O2 L) (zden L d) 18 0 [.ref a0, .int x1, .int x2, .null, .null] [] z := by
  show (bif (true && true && zob a0 1) then _ else none) = _
  rw [h]
  rfl
theorem N19 (a0 : Nat) (x1 : Int32) (x2 : Int32) (x3 : Int32) (h : zob a0 1 = true) : zden L (d + 1) 19 [.ref a0, .int x1, .int x2, .int x3] z = xruns (O2 L) (zden L d) 19 0 [.ref a0, .int x1, .int x2, .int x3, .null, .null] [] z := by
  show (bif (true && true && zob a0 1) then _ else none) = _
  rw [h]
  rfl
theorem N20 (a0 : Nat) (x1 : Int32) (x2 : Int32) (x3 : Int32) (h : zob a0 1 = true) : zden L (d + 1) 20 [.ref a0, .int x1, .int x2, .int x3] z = xruns (O2 L) (zden L d) 20 0 [.ref a0, .int x1, .int x2, .int x3, .null, .null] [] z := by
  show (bif (true && true && zob a0 1) then _ else none) = _
  rw [h]
  rfl
theorem N21 (a0 : Nat) (h : zob a0 1 = true) : zden L (d + 1) 21 [.ref a0] z = xruns (O2 L) (zden L d) 21 0 [.ref a0, .null, .null, .null, .null, .null] [] z := by
  show (bif (true && true && zob a0 1) then _ else none) = _
  rw [h]
  rfl
theorem N22 (a0 : Nat) (h : zob a0 1 = true) : zden L (d + 1) 22 [.ref a0] z = xruns (O2 L) (zden L d) 22 0 [.ref a0, .null, .null, .null, .null] [] z := by
  show (bif (true && true && zob a0 1) then _ else none) = _
  rw [h]
  rfl
theorem N23 (a0 : Nat) (h : zob a0 1 = true) : zden L (d + 1) 23 [.ref a0] z = xruns (O2 L) (zden L d) 23 0 [.ref a0, .null] [] z := by
  show (bif (true && true && zob a0 1) then _ else none) = _
  rw [h]
  rfl
theorem N24 (a0 : Nat) (x1 : Int32) (h : zob a0 1 = true) : zden L (d + 1) 24 [.ref a0, .int x1] z = xruns (O2 L) (zden L d) 24 0 [.ref a0, .int x1, .null, .null, .null] [] z := by
  show (bif (true && true && zob a0 1) then _ else none) = _
  rw [h]
  rfl
theorem N25 (a0 : Nat) (h : zob a0 1 = true) : zden L (d + 1) 25 [.ref a0] z = xruns (O2 L) (zden L d) 25 0 [.ref a0, .null] [] z := by
  show (bif (true && true && zob a0 1) then _ else none) = _
  rw [h]
  rfl
theorem N26 (a0 : Nat) (h : zob a0 1 = true) : zden L (d + 1) 26 [.ref a0] z = xruns (O2 L) (zden L d) 26 0 [.ref a0, .null, .null, .null] [] z := by
  show (bif (true && true && zob a0 1) then _ else none) = _
  rw [h]
  rfl
theorem N27 (a0 : Nat) (x1 : Int32) (x2 : Int32) (h : zob a0 1 = true) : zden L (d + 1) 27 [.ref a0, .int x1, .int x2] z = xruns (O2 L) (zden L d) 27 0 [.ref a0, .int x1, .int x2, .null, .null, .null, .null] [] z := by
  show (bif (true && true && zob a0 1) then _ else none) = _
  rw [h]
  rfl
theorem N29 (a0 : Nat) (a1 : Nat) (h : zob a0 2 = true) : zden L (d + 1) 29 [.ref a0, .ref a1] z = xruns (O2 L) (zden L d) 29 0 [.ref a0, .ref a1] [] z := by
  show (bif (true && true && zob a0 2) then _ else none) = _
  rw [h]
  rfl
theorem N30 (a0 : Nat) (a1 : Nat) (a2 : Nat) (h : zob a0 2 = true) : zden L (d + 1) 30 [.ref a0, .ref a1, .ref a2] z = xruns (O2 L) (zden L d) 30 0 [.ref a0, .ref a1, .ref a2, .null, .null, .null] [] z := by
  show (bif (true && true && zob a0 2) then _ else none) = _
  rw [h]
  rfl
theorem N31 (a0 : Nat) (a1 : Nat) (x2 : Int32) (x3 : Int32) (h : zob a0 2 = true) : zden L (d + 1) 31 [.ref a0, .ref a1, .int x2, .int x3] z = xruns (O2 L) (zden L d) 31 0 [.ref a0, .ref a1, .int x2, .int x3] [] z := by
  show (bif (true && true && zob a0 2) then _ else none) = _
  rw [h]
  rfl
theorem N32 (a0 : Nat) (a1 : Nat) (x2 : Int32) (h : zob a0 2 = true) : zden L (d + 1) 32 [.ref a0, .ref a1, .int x2] z = xruns (O2 L) (zden L d) 32 0 [.ref a0, .ref a1, .int x2, .null] [] z := by
  show (bif (true && true && zob a0 2) then _ else none) = _
  rw [h]
  rfl
theorem N33 (a0 : Nat) (a1 : Nat) (x2 : Int32) (x3 : Int32) (h : zob a0 2 = true) : zden L (d + 1) 33 [.ref a0, .ref a1, .int x2, .int x3] z = xruns (O2 L) (zden L d) 33 0 [.ref a0, .ref a1, .int x2, .int x3, .null, .null, .null, .null, .null, .null] [] z := by
  show (bif (true && true && zob a0 2) then _ else none) = _
  rw [h]
  rfl
theorem N34 (a0 : Nat) (x1 : Int32) (x2 : Int32) (h : zob a0 2 = true) : zden L (d + 1) 34 [.ref a0, .int x1, .int x2] z = xruns (O2 L) (zden L d) 34 0 [.ref a0, .int x1, .int x2] [] z := by
  show (bif (true && true && zob a0 2) then _ else none) = _
  rw [h]
  rfl
theorem N35 (a0 : Nat) (a1 : Nat) (h : zob a0 2 = true) : zden L (d + 1) 35 [.ref a0, .ref a1] z = xruns (O2 L) (zden L d) 35 0 [.ref a0, .ref a1, .null] [] z := by
  show (bif (true && true && zob a0 2) then _ else none) = _
  rw [h]
  rfl
theorem N36 (a0 : Nat) (a1 : Nat) (x2 : Int32) (h : zob a0 2 = true) : zden L (d + 1) 36 [.ref a0, .ref a1, .int x2] z = xruns (O2 L) (zden L d) 36 0 [.ref a0, .ref a1, .int x2, .null, .null] [] z := by
  show (bif (true && true && zob a0 2) then _ else none) = _
  rw [h]
  rfl
theorem N38 (a0 : Nat) (h : zob a0 3 = true) : zden L (d + 1) 38 [.ref a0] z = xruns (O2 L) (zden L d) 38 0 [.ref a0] [] z := by
  show (bif (true && true && zob a0 3) then _ else none) = _
  rw [h]
  rfl
theorem N39 (a0 : Nat) (a1 : Nat) (h : zob a0 3 = true) : zden L (d + 1) 39 [.ref a0, .ref a1] z = xruns (O2 L) (zden L d) 39 0 [.ref a0, .ref a1, .null, .null] [] z := by
  show (bif (true && true && zob a0 3) then _ else none) = _
  rw [h]
  rfl
theorem N40 (a0 : Nat) (a1 : Nat) (h : zob a0 3 = true) : zden L (d + 1) 40 [.ref a0, .ref a1] z = xruns (O2 L) (zden L d) 40 0 [.ref a0, .ref a1, .null] [] z := by
  show (bif (true && true && zob a0 3) then _ else none) = _
  rw [h]
  rfl
theorem N41 (a0 : Nat) (x1 : Int32) (x2 : Int32) (x3 : Int32) (h : zob a0 3 = true) : zden L (d + 1) 41 [.ref a0, .int x1, .int x2, .int x3] z = xruns (O2 L) (zden L d) 41 0 [.ref a0, .int x1, .int x2, .int x3] [] z := by
  show (bif (true && true && zob a0 3) then _ else none) = _
  rw [h]
  rfl
theorem N42 (a0 : Nat) (x1 : Int32) (h : zob a0 3 = true) : zden L (d + 1) 42 [.ref a0, .int x1] z = xruns (O2 L) (zden L d) 42 0 [.ref a0, .int x1] [] z := by
  show (bif (true && true && zob a0 3) then _ else none) = _
  rw [h]
  rfl
theorem N43 (a0 : Nat) (x1 : Int32) (h : zob a0 3 = true) : zden L (d + 1) 43 [.ref a0, .int x1] z = xruns (O2 L) (zden L d) 43 0 [.ref a0, .int x1] [] z := by
  show (bif (true && true && zob a0 3) then _ else none) = _
  rw [h]
  rfl
theorem N44 (a0 : Nat) (h : zob a0 3 = true) : zden L (d + 1) 44 [.ref a0] z = xruns (O2 L) (zden L d) 44 0 [.ref a0, .null] [] z := by
  show (bif (true && true && zob a0 3) then _ else none) = _
  rw [h]
  rfl
theorem N45 (a0 : Nat) (x1 : Int32) (h : zob a0 3 = true) : zden L (d + 1) 45 [.ref a0, .int x1] z = xruns (O2 L) (zden L d) 45 0 [.ref a0, .int x1, .null] [] z := by
  show (bif (true && true && zob a0 3) then _ else none) = _
  rw [h]
  rfl
theorem N46 (a0 : Nat) (x1 : Int32) (h : zob a0 3 = true) : zden L (d + 1) 46 [.ref a0, .int x1] z = xruns (O2 L) (zden L d) 46 0 [.ref a0, .int x1] [] z := by
  show (bif (true && true && zob a0 3) then _ else none) = _
  rw [h]
  rfl
theorem N47 (a0 : Nat) (x1 : Int32) (h : zob a0 3 = true) : zden L (d + 1) 47 [.ref a0, .int x1] z = xruns (O2 L) (zden L d) 47 0 [.ref a0, .int x1, .null, .null, .null] [] z := by
  show (bif (true && true && zob a0 3) then _ else none) = _
  rw [h]
  rfl
theorem N48 (a0 : Nat) (h : zob a0 3 = true) : zden L (d + 1) 48 [.ref a0] z = xruns (O2 L) (zden L d) 48 0 [.ref a0, .null] [] z := by
  show (bif (true && true && zob a0 3) then _ else none) = _
  rw [h]
  rfl
theorem N49 (a0 : Nat) (h : zob a0 3 = true) : zden L (d + 1) 49 [.ref a0] z = xruns (O2 L) (zden L d) 49 0 [.ref a0] [] z := by
  show (bif (true && true && zob a0 3) then _ else none) = _
  rw [h]
  rfl
theorem N50 (a0 : Nat) (h : zob a0 3 = true) : zden L (d + 1) 50 [.ref a0] z = xruns (O2 L) (zden L d) 50 0 [.ref a0] [] z := by
  show (bif (true && true && zob a0 3) then _ else none) = _
  rw [h]
  rfl
theorem N51 (a0 : Nat) (h : zob a0 3 = true) : zden L (d + 1) 51 [.ref a0] z = xruns (O2 L) (zden L d) 51 0 [.ref a0, .null, .null] [] z := by
  show (bif (true && true && zob a0 3) then _ else none) = _
  rw [h]
  rfl
theorem N52 (a0 : Nat) (x1 : Int32) (h : zob a0 3 = true) : zden L (d + 1) 52 [.ref a0, .int x1] z = xruns (O2 L) (zden L d) 52 0 [.ref a0, .int x1] [] z := by
  show (bif (true && true && zob a0 3) then _ else none) = _
  rw [h]
  rfl
theorem N53 (a0 : Nat) (h : zob a0 3 = true) : zden L (d + 1) 53 [.ref a0] z = xruns (O2 L) (zden L d) 53 0 [.ref a0, .null] [] z := by
  show (bif (true && true && zob a0 3) then _ else none) = _
  rw [h]
  rfl
theorem N68 (a0 : Nat) (x1 : Int32) : zden L (d + 1) 68 [.ref a0, .int x1] z = xruns (O2 L) (zden L d) 68 0 [.ref a0, .int x1, .null, .null] [] z := rfl
theorem N69 (a0 : Nat) (x1 : Int32) : zden L (d + 1) 69 [.ref a0, .int x1] z = xruns (O2 L) (zden L d) 69 0 [.ref a0, .int x1, .null] [] z := rfl
theorem N70 (a0 : Nat) (a1 : Nat) (x2 : Int32) (h : zob a0 5 = true) : zden L (d + 1) 70 [.ref a0, .ref a1, .int x2] z = xruns (O2 L) (zden L d) 70 0 [.ref a0, .ref a1, .int x2, .null] [] z := by
  show (bif (true && true && zob a0 5) then _ else none) = _
  rw [h]
  rfl
theorem N71 (a0 : Nat) (x1 : Int32) : zden L (d + 1) 71 [.ref a0, .int x1] z = xruns (O2 L) (zden L d) 71 0 [.ref a0, .int x1] [] z := rfl
theorem N72 (a0 : Nat) (x1 : Int32) (x2 : Int32) : zden L (d + 1) 72 [.ref a0, .int x1, .int x2] z = xruns (O2 L) (zden L d) 72 0 [.ref a0, .int x1, .int x2, .null, .null] [] z := rfl
theorem N74 (a0 : Nat) (h : zob a0 6 = true) : zden L (d + 1) 74 [.ref a0] z = xruns (O2 L) (zden L d) 74 0 [.ref a0] [] z := by
  show (bif (true && true && zob a0 6) then _ else none) = _
  rw [h]
  rfl
theorem N75 (a0 : Nat) (h : zob a0 6 = true) : zden L (d + 1) 75 [.ref a0] z = xruns (O2 L) (zden L d) 75 0 [.ref a0] [] z := by
  show (bif (true && true && zob a0 6) then _ else none) = _
  rw [h]
  rfl
theorem N76 (a0 : Nat) (x1 : Int32) (h : zob a0 6 = true) : zden L (d + 1) 76 [.ref a0, .int x1] z = xruns (O2 L) (zden L d) 76 0 [.ref a0, .int x1, .null, .null] [] z := by
  show (bif (true && true && zob a0 6) then _ else none) = _
  rw [h]
  rfl
theorem N77 (a0 : Nat) (x1 : Int32) (h : zob a0 6 = true) : zden L (d + 1) 77 [.ref a0, .int x1] z = xruns (O2 L) (zden L d) 77 0 [.ref a0, .int x1] [] z := by
  show (bif (true && true && zob a0 6) then _ else none) = _
  rw [h]
  rfl
theorem N78 (a0 : Nat) (a1 : Nat) (h : zob a0 6 = true) : zden L (d + 1) 78 [.ref a0, .ref a1] z = xruns (O2 L) (zden L d) 78 0 [.ref a0, .ref a1, .null, .null, .null] [] z := by
  show (bif (true && true && zob a0 6) then _ else none) = _
  rw [h]
  rfl
theorem N79 (a0 : Nat) (a1 : Nat) (h : zob a0 6 = true) : zden L (d + 1) 79 [.ref a0, .ref a1] z = xruns (O2 L) (zden L d) 79 0 [.ref a0, .ref a1] [] z := by
  show (bif (true && true && zob a0 6) then _ else none) = _
  rw [h]
  rfl
theorem N80 (a0 : Nat) (x1 : Int32) (h : zob a0 6 = true) : zden L (d + 1) 80 [.ref a0, .int x1] z = xruns (O2 L) (zden L d) 80 0 [.ref a0, .int x1, .null, .null] [] z := by
  show (bif (true && true && zob a0 6) then _ else none) = _
  rw [h]
  rfl
theorem N81 (a0 : Nat) (x1 : Int32) (h : zob a0 6 = true) : zden L (d + 1) 81 [.ref a0, .int x1] z = xruns (O2 L) (zden L d) 81 0 [.ref a0, .int x1, .null] [] z := by
  show (bif (true && true && zob a0 6) then _ else none) = _
  rw [h]
  rfl
theorem N82 (a0 : Nat) (x1 : Int32) (h : zob a0 6 = true) : zden L (d + 1) 82 [.ref a0, .int x1] z = xruns (O2 L) (zden L d) 82 0 [.ref a0, .int x1, .null, .null, .null, .null] [] z := by
  show (bif (true && true && zob a0 6) then _ else none) = _
  rw [h]
  rfl
theorem N83 (a0 : Nat) (x1 : Int32) (x2 : Int32) (h : zob a0 6 = true) : zden L (d + 1) 83 [.ref a0, .int x1, .int x2] z = xruns (O2 L) (zden L d) 83 0 [.ref a0, .int x1, .int x2] [] z := by
  show (bif (true && true && zob a0 6) then _ else none) = _
  rw [h]
  rfl
theorem N84 (a0 : Nat) (x1 : Int32) (x2 : Int32) (h : zob a0 6 = true) : zden L (d + 1) 84 [.ref a0, .int x1, .int x2] z = xruns (O2 L) (zden L d) 84 0 [.ref a0, .int x1, .int x2, .null] [] z := by
  show (bif (true && true && zob a0 6) then _ else none) = _
  rw [h]
  rfl
theorem N85 (a0 : Nat) (x1 : Int32) (h : zob a0 6 = true) : zden L (d + 1) 85 [.ref a0, .int x1] z = xruns (O2 L) (zden L d) 85 0 [.ref a0, .int x1, .null, .null] [] z := by
  show (bif (true && true && zob a0 6) then _ else none) = _
  rw [h]
  rfl
theorem N87 (a0 : Nat) (x1 : Int32) (x2 : Int32) (x3 : Int32) (x4 : Int32) (x5 : Int32) (h : zob a0 7 = true) : zden L (d + 1) 87 [.ref a0, .int x1, .int x2, .int x3, .int x4, .int x5] z = xruns (O2 L) (zden L d) 87 0 [.ref a0, .int x1, .int x2, .int x3, .int x4, .int x5] [] z := by
  show (bif (true && true && zob a0 7) then _ else none) = _
  rw [h]
  rfl
theorem N88 (a0 : Nat) (x1 : Int32) (h : zob a0 7 = true) : zden L (d + 1) 88 [.ref a0, .int x1] z = xruns (O2 L) (zden L d) 88 0 [.ref a0, .int x1, .null] [] z := by
  show (bif (true && true && zob a0 7) then _ else none) = _
  rw [h]
  rfl
theorem N89 (a0 : Nat) (h : zob a0 7 = true) : zden L (d + 1) 89 [.ref a0] z = xruns (O2 L) (zden L d) 89 0 [.ref a0, .null, .null] [] z := by
  show (bif (true && true && zob a0 7) then _ else none) = _
  rw [h]
  rfl
theorem N90 (a0 : Nat) (h : zob a0 7 = true) : zden L (d + 1) 90 [.ref a0] z = xruns (O2 L) (zden L d) 90 0 [.ref a0, .null, .null] [] z := by
  show (bif (true && true && zob a0 7) then _ else none) = _
  rw [h]
  rfl
theorem N91 (a0 : Nat) (x1 : Int32) (h : zob a0 7 = true) : zden L (d + 1) 91 [.ref a0, .int x1] z = xruns (O2 L) (zden L d) 91 0 [.ref a0, .int x1, .null] [] z := by
  show (bif (true && true && zob a0 7) then _ else none) = _
  rw [h]
  rfl
theorem N92 (a0 : Nat) (h : zob a0 7 = true) : zden L (d + 1) 92 [.ref a0] z = xruns (O2 L) (zden L d) 92 0 [.ref a0] [] z := by
  show (bif (true && true && zob a0 7) then _ else none) = _
  rw [h]
  rfl
theorem N93 (a0 : Nat) (x1 : Int32) (x2 : Int32) (h : zob a0 7 = true) : zden L (d + 1) 93 [.ref a0, .int x1, .int x2] z = xruns (O2 L) (zden L d) 93 0 [.ref a0, .int x1, .int x2] [] z := by
  show (bif (true && true && zob a0 7) then _ else none) = _
  rw [h]
  rfl
theorem N94 (a0 : Nat) (x1 : Int32) (x2 : Int32) (h : zob a0 7 = true) : zden L (d + 1) 94 [.ref a0, .int x1, .int x2] z = xruns (O2 L) (zden L d) 94 0 [.ref a0, .int x1, .int x2] [] z := by
  show (bif (true && true && zob a0 7) then _ else none) = _
  rw [h]
  rfl
theorem N95 (a0 : Nat) (x1 : Int32) (x2 : Int32) (h : zob a0 7 = true) : zden L (d + 1) 95 [.ref a0, .int x1, .int x2] z = xruns (O2 L) (zden L d) 95 0 [.ref a0, .int x1, .int x2] [] z := by
  show (bif (true && true && zob a0 7) then _ else none) = _
  rw [h]
  rfl
theorem N96 (a0 : Nat) (x1 : Int32) (x2 : Int32) (h : zob a0 7 = true) : zden L (d + 1) 96 [.ref a0, .int x1, .int x2] z = xruns (O2 L) (zden L d) 96 0 [.ref a0, .int x1, .int x2] [] z := by
  show (bif (true && true && zob a0 7) then _ else none) = _
  rw [h]
  rfl
theorem N97 (a0 : Nat) (x1 : Int32) (x2 : Int32) (h : zob a0 7 = true) : zden L (d + 1) 97 [.ref a0, .int x1, .int x2] z = xruns (O2 L) (zden L d) 97 0 [.ref a0, .int x1, .int x2] [] z := by
  show (bif (true && true && zob a0 7) then _ else none) = _
  rw [h]
  rfl
theorem N98 (a0 : Nat) (x1 : Int32) (h : zob a0 7 = true) : zden L (d + 1) 98 [.ref a0, .int x1] z = xruns (O2 L) (zden L d) 98 0 [.ref a0, .int x1] [] z := by
  show (bif (true && true && zob a0 7) then _ else none) = _
  rw [h]
  rfl
theorem N99 (a0 : Nat) (x1 : Int32) (x2 : Int32) (h : zob a0 7 = true) : zden L (d + 1) 99 [.ref a0, .int x1, .int x2] z = xruns (O2 L) (zden L d) 99 0 [.ref a0, .int x1, .int x2] [] z := by
  show (bif (true && true && zob a0 7) then _ else none) = _
  rw [h]
  rfl
theorem N100 (a0 : Nat) (x1 : Int32) (h : zob a0 7 = true) : zden L (d + 1) 100 [.ref a0, .int x1] z = xruns (O2 L) (zden L d) 100 0 [.ref a0, .int x1] [] z := by
  show (bif (true && true && zob a0 7) then _ else none) = _
  rw [h]
  rfl
theorem N101 (a0 : Nat) (x1 : Int32) (h : zob a0 7 = true) : zden L (d + 1) 101 [.ref a0, .int x1] z = xruns (O2 L) (zden L d) 101 0 [.ref a0, .int x1] [] z := by
  show (bif (true && true && zob a0 7) then _ else none) = _
  rw [h]
  rfl
theorem N102 (a0 : Nat) (x1 : Int32) (h : zob a0 7 = true) : zden L (d + 1) 102 [.ref a0, .int x1] z = xruns (O2 L) (zden L d) 102 0 [.ref a0, .int x1] [] z := by
  show (bif (true && true && zob a0 7) then _ else none) = _
  rw [h]
  rfl
theorem N103 (a0 : Nat) (x1 : Int32) (h : zob a0 7 = true) : zden L (d + 1) 103 [.ref a0, .int x1] z = xruns (O2 L) (zden L d) 103 0 [.ref a0, .int x1, .null] [] z := by
  show (bif (true && true && zob a0 7) then _ else none) = _
  rw [h]
  rfl
theorem N104 (x0 : Int32) : zden L (d + 1) 104 [.int x0] z = xruns (O2 L) (zden L d) 104 0 [.int x0] [] z := rfl
theorem N105 (x0 : Int32) : zden L (d + 1) 105 [.int x0] z = xruns (O2 L) (zden L d) 105 0 [.int x0] [] z := rfl
theorem N106 (x0 : Int32) : zden L (d + 1) 106 [.int x0] z = xruns (O2 L) (zden L d) 106 0 [.int x0] [] z := rfl
theorem N107 (x0 : Int32) : zden L (d + 1) 107 [.int x0] z = xruns (O2 L) (zden L d) 107 0 [.int x0] [] z := rfl
theorem N108 (x0 : Int32) (x1 : Int32) : zden L (d + 1) 108 [.int x0, .int x1] z = xruns (O2 L) (zden L d) 108 0 [.int x0, .int x1] [] z := rfl
theorem N110 (x0 : Int32) : zden L (d + 1) 110 [.int x0] z = xruns (O2 L) (zden L d) 110 0 [.int x0] [] z := rfl
theorem N111 (x0 : Int32) : zden L (d + 1) 111 [.int x0] z = xruns (O2 L) (zden L d) 111 0 [.int x0] [] z := rfl
theorem N112 (x0 : Int32) : zden L (d + 1) 112 [.int x0] z = xruns (O2 L) (zden L d) 112 0 [.int x0] [] z := rfl
theorem N113 (a0 : Nat) (x1 : Int32) (x2 : Int32) (x3 : Int32) (x4 : Int32) (x5 : Int32) (h : zob a0 8 = true) : zden L (d + 1) 113 [.ref a0, .int x1, .int x2, .int x3, .int x4, .int x5] z = xruns (O2 L) (zden L d) 113 0 [.ref a0, .int x1, .int x2, .int x3, .int x4, .int x5, .null, .null] [] z := by
  show (bif (true && true && zob a0 8) then _ else none) = _
  rw [h]
  rfl
theorem N114 (a0 : Nat) (x1 : Int32) (h : zob a0 8 = true) : zden L (d + 1) 114 [.ref a0, .int x1] z = xruns (O2 L) (zden L d) 114 0 [.ref a0, .int x1, .null] [] z := by
  show (bif (true && true && zob a0 8) then _ else none) = _
  rw [h]
  rfl
theorem N115 (a0 : Nat) (x1 : Int32) (h : zob a0 8 = true) : zden L (d + 1) 115 [.ref a0, .int x1] z = xruns (O2 L) (zden L d) 115 0 [.ref a0, .int x1, .null, .null] [] z := by
  show (bif (true && true && zob a0 8) then _ else none) = _
  rw [h]
  rfl
theorem N116 (a0 : Nat) (x1 : Int32) (x2 : Int32) (x3 : Int32) : zden L (d + 1) 116 [.ref a0, .int x1, .int x2, .int x3] z = xruns (O2 L) (zden L d) 116 0 [.ref a0, .int x1, .int x2, .int x3, .null] [] z := rfl
theorem N117 (a0 : Nat) (x1 : Int32) (h : zob a0 8 = true) : zden L (d + 1) 117 [.ref a0, .int x1] z = xruns (O2 L) (zden L d) 117 0 [.ref a0, .int x1, .null, .null] [] z := by
  show (bif (true && true && zob a0 8) then _ else none) = _
  rw [h]
  rfl
theorem N118 (a0 : Nat) (h : zob a0 8 = true) : zden L (d + 1) 118 [.ref a0] z = xruns (O2 L) (zden L d) 118 0 [.ref a0, .null, .null, .null, .null, .null, .null, .null, .null] [] z := by
  show (bif (true && true && zob a0 8) then _ else none) = _
  rw [h]
  rfl
theorem N119 (a0 : Nat) (h : zob a0 8 = true) : zden L (d + 1) 119 [.ref a0] z = xruns (O2 L) (zden L d) 119 0 [.ref a0, .null, .null, .null, .null, .null] [] z := by
  show (bif (true && true && zob a0 8) then _ else none) = _
  rw [h]
  rfl
theorem N120 (a0 : Nat) (x1 : Int32) (h : zob a0 8 = true) : zden L (d + 1) 120 [.ref a0, .int x1] z = xruns (O2 L) (zden L d) 120 0 [.ref a0, .int x1] [] z := by
  show (bif (true && true && zob a0 8) then _ else none) = _
  rw [h]
  rfl
theorem N121 (a0 : Nat) (h : zob a0 8 = true) : zden L (d + 1) 121 [.ref a0] z = xruns (O2 L) (zden L d) 121 0 [.ref a0, .null, .null, .null, .null, .null] [] z := by
  show (bif (true && true && zob a0 8) then _ else none) = _
  rw [h]
  rfl
theorem N122 (a0 : Nat) (h : zob a0 8 = true) : zden L (d + 1) 122 [.ref a0] z = xruns (O2 L) (zden L d) 122 0 [.ref a0, .null] [] z := by
  show (bif (true && true && zob a0 8) then _ else none) = _
  rw [h]
  rfl
theorem N123 (a0 : Nat) (h : zob a0 8 = true) : zden L (d + 1) 123 [.ref a0] z = xruns (O2 L) (zden L d) 123 0 [.ref a0] [] z := by
  show (bif (true && true && zob a0 8) then _ else none) = _
  rw [h]
  rfl
theorem N124 (a0 : Nat) (h : zob a0 8 = true) : zden L (d + 1) 124 [.ref a0] z = xruns (O2 L) (zden L d) 124 0 [.ref a0] [] z := by
  show (bif (true && true && zob a0 8) then _ else none) = _
  rw [h]
  rfl
theorem N125 (a0 : Nat) (x1 : Int32) (x2 : Int32) (x3 : Int32) (h : zob a0 8 = true) : zden L (d + 1) 125 [.ref a0, .int x1, .int x2, .int x3] z = xruns (O2 L) (zden L d) 125 0 [.ref a0, .int x1, .int x2, .int x3] [] z := by
  show (bif (true && true && zob a0 8) then _ else none) = _
  rw [h]
  rfl
theorem N126 (a0 : Nat) (h : zob a0 8 = true) : zden L (d + 1) 126 [.ref a0] z = xruns (O2 L) (zden L d) 126 0 [.ref a0] [] z := by
  show (bif (true && true && zob a0 8) then _ else none) = _
  rw [h]
  rfl
theorem N127 (a0 : Nat) (x1 : Int32) (h : zob a0 8 = true) : zden L (d + 1) 127 [.ref a0, .int x1] z = xruns (O2 L) (zden L d) 127 0 [.ref a0, .int x1, .null] [] z := by
  show (bif (true && true && zob a0 8) then _ else none) = _
  rw [h]
  rfl
theorem N128 (a0 : Nat) (h : zob a0 8 = true) : zden L (d + 1) 128 [.ref a0] z = xruns (O2 L) (zden L d) 128 0 [.ref a0, .null, .null] [] z := by
  show (bif (true && true && zob a0 8) then _ else none) = _
  rw [h]
  rfl
theorem N129 (a0 : Nat) (h : zob a0 8 = true) : zden L (d + 1) 129 [.ref a0] z = xruns (O2 L) (zden L d) 129 0 [.ref a0, .null] [] z := by
  show (bif (true && true && zob a0 8) then _ else none) = _
  rw [h]
  rfl
theorem N130 (a0 : Nat) (h : zob a0 8 = true) : zden L (d + 1) 130 [.ref a0] z = xruns (O2 L) (zden L d) 130 0 [.ref a0, .null, .null, .null] [] z := by
  show (bif (true && true && zob a0 8) then _ else none) = _
  rw [h]
  rfl
theorem N131 (a0 : Nat) (h : zob a0 8 = true) : zden L (d + 1) 131 [.ref a0] z = xruns (O2 L) (zden L d) 131 0 [.ref a0, .null] [] z := by
  show (bif (true && true && zob a0 8) then _ else none) = _
  rw [h]
  rfl
theorem N132 (a0 : Nat) (h : zob a0 8 = true) : zden L (d + 1) 132 [.ref a0] z = xruns (O2 L) (zden L d) 132 0 [.ref a0, .null] [] z := by
  show (bif (true && true && zob a0 8) then _ else none) = _
  rw [h]
  rfl
theorem N133 (a0 : Nat) (h : zob a0 8 = true) : zden L (d + 1) 133 [.ref a0] z = xruns (O2 L) (zden L d) 133 0 [.ref a0] [] z := by
  show (bif (true && true && zob a0 8) then _ else none) = _
  rw [h]
  rfl
theorem N134 (a0 : Nat) (h : zob a0 8 = true) : zden L (d + 1) 134 [.ref a0] z = xruns (O2 L) (zden L d) 134 0 [.ref a0, .null] [] z := by
  show (bif (true && true && zob a0 8) then _ else none) = _
  rw [h]
  rfl
theorem N135 (a0 : Nat) (x1 : Int32) (h : zob a0 8 = true) : zden L (d + 1) 135 [.ref a0, .int x1] z = xruns (O2 L) (zden L d) 135 0 [.ref a0, .int x1, .null] [] z := by
  show (bif (true && true && zob a0 8) then _ else none) = _
  rw [h]
  rfl
theorem N136 (a0 : Nat) (h : zob a0 8 = true) : zden L (d + 1) 136 [.ref a0] z = xruns (O2 L) (zden L d) 136 0 [.ref a0] [] z := by
  show (bif (true && true && zob a0 8) then _ else none) = _
  rw [h]
  rfl
theorem N137 (a0 : Nat) (x1 : Int32) (x2 : Int32) (h : zob a0 8 = true) : zden L (d + 1) 137 [.ref a0, .int x1, .int x2] z = xruns (O2 L) (zden L d) 137 0 [.ref a0, .int x1, .int x2] [] z := by
  show (bif (true && true && zob a0 8) then _ else none) = _
  rw [h]
  rfl
theorem N138 (a0 : Nat) (x1 : Int32) (h : zob a0 8 = true) : zden L (d + 1) 138 [.ref a0, .int x1] z = xruns (O2 L) (zden L d) 138 0 [.ref a0, .int x1] [] z := by
  show (bif (true && true && zob a0 8) then _ else none) = _
  rw [h]
  rfl
theorem N139 (a0 : Nat) (x1 : Int32) (x2 : Int32) (h : zob a0 8 = true) : zden L (d + 1) 139 [.ref a0, .int x1, .int x2] z = xruns (O2 L) (zden L d) 139 0 [.ref a0, .int x1, .int x2, .null, .null, .null, .null, .null] [] z := by
  show (bif (true && true && zob a0 8) then _ else none) = _
  rw [h]
  rfl
theorem N140 (a0 : Nat) (x1 : Int32) (x2 : Int32) (h : zob a0 8 = true) : zden L (d + 1) 140 [.ref a0, .int x1, .int x2] z = xruns (O2 L) (zden L d) 140 0 [.ref a0, .int x1, .int x2, .null, .null, .null, .null, .null] [] z := by
  show (bif (true && true && zob a0 8) then _ else none) = _
  rw [h]
  rfl
theorem N141 (a0 : Nat) (h : zob a0 8 = true) : zden L (d + 1) 141 [.ref a0] z = xruns (O2 L) (zden L d) 141 0 [.ref a0, .null, .null] [] z := by
  show (bif (true && true && zob a0 8) then _ else none) = _
  rw [h]
  rfl
theorem N142 (a0 : Nat) (h : zob a0 8 = true) : zden L (d + 1) 142 [.ref a0] z = xruns (O2 L) (zden L d) 142 0 [.ref a0, .null, .null, .null, .null, .null] [] z := by
  show (bif (true && true && zob a0 8) then _ else none) = _
  rw [h]
  rfl
theorem N143 (a0 : Nat) (h : zob a0 8 = true) : zden L (d + 1) 143 [.ref a0] z = xruns (O2 L) (zden L d) 143 0 [.ref a0] [] z := by
  show (bif (true && true && zob a0 8) then _ else none) = _
  rw [h]
  rfl
theorem N144 (a0 : Nat) (x1 : Int32) (h : zob a0 8 = true) : zden L (d + 1) 144 [.ref a0, .int x1] z = xruns (O2 L) (zden L d) 144 0 [.ref a0, .int x1] [] z := by
  show (bif (true && true && zob a0 8) then _ else none) = _
  rw [h]
  rfl
theorem N145 (a0 : Nat) (x1 : Int32) (x2 : Int32) (h : zob a0 8 = true) : zden L (d + 1) 145 [.ref a0, .int x1, .int x2] z = xruns (O2 L) (zden L d) 145 0 [.ref a0, .int x1, .int x2] [] z := by
  show (bif (true && true && zob a0 8) then _ else none) = _
  rw [h]
  rfl
theorem N146 (a0 : Nat) (x1 : Int32) (x2 : Int32) (h : zob a0 8 = true) : zden L (d + 1) 146 [.ref a0, .int x1, .int x2] z = xruns (O2 L) (zden L d) 146 0 [.ref a0, .int x1, .int x2] [] z := by
  show (bif (true && true && zob a0 8) then _ else none) = _
  rw [h]
  rfl
theorem N147 (a0 : Nat) (x1 : Int32) (h : zob a0 8 = true) : zden L (d + 1) 147 [.ref a0, .int x1] z = xruns (O2 L) (zden L d) 147 0 [.ref a0, .int x1, .null, .null, .null, .null, .null] [] z := by
  show (bif (true && true && zob a0 8) then _ else none) = _
  rw [h]
  rfl
theorem N148 (a0 : Nat) (x1 : Int32) (h : zob a0 8 = true) : zden L (d + 1) 148 [.ref a0, .int x1] z = xruns (O2 L) (zden L d) 148 0 [.ref a0, .int x1, .null] [] z := by
  show (bif (true && true && zob a0 8) then _ else none) = _
  rw [h]
  rfl
theorem N149 (a0 : Nat) (x1 : Int32) (x2 : Int32) (h : zob a0 8 = true) : zden L (d + 1) 149 [.ref a0, .int x1, .int x2] z = xruns (O2 L) (zden L d) 149 0 [.ref a0, .int x1, .int x2] [] z := by
  show (bif (true && true && zob a0 8) then _ else none) = _
  rw [h]
  rfl
theorem N150 (a0 : Nat) (x1 : Int32) (x2 : Int32) (h : zob a0 8 = true) : zden L (d + 1) 150 [.ref a0, .int x1, .int x2] z = xruns (O2 L) (zden L d) 150 0 [.ref a0, .int x1, .int x2] [] z := by
  show (bif (true && true && zob a0 8) then _ else none) = _
  rw [h]
  rfl
theorem N151 (a0 : Nat) (x1 : Int32) (h : zob a0 8 = true) : zden L (d + 1) 151 [.ref a0, .int x1] z = xruns (O2 L) (zden L d) 151 0 [.ref a0, .int x1] [] z := by
  show (bif (true && true && zob a0 8) then _ else none) = _
  rw [h]
  rfl
theorem N152 (a0 : Nat) (x1 : Int32) (h : zob a0 8 = true) : zden L (d + 1) 152 [.ref a0, .int x1] z = xruns (O2 L) (zden L d) 152 0 [.ref a0, .int x1, .null] [] z := by
  show (bif (true && true && zob a0 8) then _ else none) = _
  rw [h]
  rfl
theorem N153 (a0 : Nat) (h : zob a0 8 = true) : zden L (d + 1) 153 [.ref a0] z = xruns (O2 L) (zden L d) 153 0 [.ref a0, .null, .null] [] z := by
  show (bif (true && true && zob a0 8) then _ else none) = _
  rw [h]
  rfl
theorem N154 (a0 : Nat) (x1 : Int32) (x2 : Int32) (h : zob a0 8 = true) : zden L (d + 1) 154 [.ref a0, .int x1, .int x2] z = xruns (O2 L) (zden L d) 154 0 [.ref a0, .int x1, .int x2, .null, .null] [] z := by
  show (bif (true && true && zob a0 8) then _ else none) = _
  rw [h]
  rfl
theorem N155 (a0 : Nat) (x1 : Int32) (h : zob a0 8 = true) : zden L (d + 1) 155 [.ref a0, .int x1] z = xruns (O2 L) (zden L d) 155 0 [.ref a0, .int x1, .null, .null, .null, .null] [] z := by
  show (bif (true && true && zob a0 8) then _ else none) = _
  rw [h]
  rfl
theorem N156 (a0 : Nat) (x1 : Int32) (x2 : Int32) (h : zob a0 8 = true) : zden L (d + 1) 156 [.ref a0, .int x1, .int x2] z = xruns (O2 L) (zden L d) 156 0 [.ref a0, .int x1, .int x2] [] z := by
  show (bif (true && true && zob a0 8) then _ else none) = _
  rw [h]
  rfl
theorem N157 (a0 : Nat) (x1 : Int32) (h : zob a0 8 = true) : zden L (d + 1) 157 [.ref a0, .int x1] z = xruns (O2 L) (zden L d) 157 0 [.ref a0, .int x1] [] z := by
  show (bif (true && true && zob a0 8) then _ else none) = _
  rw [h]
  rfl
theorem N158 (a0 : Nat) (x1 : Int32) (h : zob a0 8 = true) : zden L (d + 1) 158 [.ref a0, .int x1] z = xruns (O2 L) (zden L d) 158 0 [.ref a0, .int x1, .null, .null] [] z := by
  show (bif (true && true && zob a0 8) then _ else none) = _
  rw [h]
  rfl
theorem N159 (a0 : Nat) (x1 : Int32) (h : zob a0 8 = true) : zden L (d + 1) 159 [.ref a0, .int x1] z = xruns (O2 L) (zden L d) 159 0 [.ref a0, .int x1, .null] [] z := by
  show (bif (true && true && zob a0 8) then _ else none) = _
  rw [h]
  rfl
theorem N160 (a0 : Nat) (x1 : Int32) (x2 : Int32) (h : zob a0 8 = true) : zden L (d + 1) 160 [.ref a0, .int x1, .int x2] z = xruns (O2 L) (zden L d) 160 0 [.ref a0, .int x1, .int x2, .null, .null, .null, .null, .null, .null] [] z := by
  show (bif (true && true && zob a0 8) then _ else none) = _
  rw [h]
  rfl
theorem N161 (a0 : Nat) (x1 : Int32) (h : zob a0 8 = true) : zden L (d + 1) 161 [.ref a0, .int x1] z = xruns (O2 L) (zden L d) 161 0 [.ref a0, .int x1, .null, .null] [] z := by
  show (bif (true && true && zob a0 8) then _ else none) = _
  rw [h]
  rfl
theorem N162 (a0 : Nat) (x1 : Int32) (h : zob a0 8 = true) : zden L (d + 1) 162 [.ref a0, .int x1] z = xruns (O2 L) (zden L d) 162 0 [.ref a0, .int x1] [] z := by
  show (bif (true && true && zob a0 8) then _ else none) = _
  rw [h]
  rfl
theorem N163 (a0 : Nat) (x1 : Int32) (h : zob a0 8 = true) : zden L (d + 1) 163 [.ref a0, .int x1] z = xruns (O2 L) (zden L d) 163 0 [.ref a0, .int x1] [] z := by
  show (bif (true && true && zob a0 8) then _ else none) = _
  rw [h]
  rfl
theorem N55 {a : Nat} (h : zrow a = true) : zden L (d + 1) 55 [.ref a] z = some (nI (z.1 a).length, z) := by
  show (bif zrow a && true then _ else none) = _
  rw [h]
  rfl
theorem N56 {a : Nat} (h : zrow a = true) (i : Int32) : zden L (d + 1) 56 [.ref a, .int i] z = some (zget (z.1 a) i, z) := by
  show (bif zrow a && true then _ else none) = _
  rw [h]
  rfl
theorem N57 {a : Nat} (h : zrow a = true) : zden L (d + 2) 57 [.ref a] z = some (zget (z.1 a) (nI (z.1 a).length - 1), z) := by
  show (bif zrow a && true then _ else none) = _
  rw [h]
  rfl
theorem N58 {a : Nat} (h : zrow a = true) (i v : Int32) : zden L (d + 1) 58 [.ref a, .int i, .int v] z = some (0, zrs z a (zset (z.1 a) i v)) := by
  show (bif zrow a && true then _ else none) = _
  rw [h]
  rfl
theorem N59 {a : Nat} (h : zrow a = true) (i v : Int32) : zden L (d + 1) 59 [.ref a, .int i, .int v] z = some (0, zrs z a (zsb (z.1 a) i v)) := by
  show (bif zrow a && true then _ else none) = _
  rw [h]
  rfl
theorem N60 {a : Nat} (h : zrow a = true) (i v : Int32) : zden L (d + 1) 60 [.ref a, .int i, .int v] z = some (zhas (z.1 a) i v, z) := by
  show (bif zrow a && true then _ else none) = _
  rw [h]
  rfl
theorem N61 {a : Nat} (h : zrow a = true) (v : Int32) : zden L (d + 2) 61 [.ref a, .int v] z = some (0, zrs z a (zadd (zmo a) (z.1 a) v)) := by
  show (bif zrow a && true then _ else none) = _
  rw [h]
  rfl
theorem N62 {a : Nat} (h : zrow a = true) (n : Int32) : zden L (d + 1) 62 [.ref a, .int n] z = some (0, zrs z a (zkeep (z.1 a) n)) := by
  show (bif zrow a && true then _ else none) = _
  rw [h]
  rfl
theorem N63 {a : Nat} (h : zrow a = true) : zden L (d + 1) 63 [.ref a] z = some (0, zrs z a []) := by
  show (bif zrow a && true then _ else none) = _
  rw [h]
  rfl
theorem N64 {a : Nat} (h : zrow a = true) (n v : Int32) : zden L (d + 3) 64 [.ref a, .int n, .int v] z = some (0, zrs z a (List.replicate (min n.toNatClampNeg (zmo a)) v)) := by
  show (bif zrow a && true then _ else none) = _
  rw [h]
  rfl
theorem N65 {a b : Nat} (h : zrow a = true) (hb : zrow b = true) (hab : Nat.beq a b = false) : zden L (d + 3) 65 [.ref a, .ref b] z = some (0, zrs z a ((z.1 b).take (zmo a))) := by
  show (bif zrow a && true then (bif true && zrow b && !(Nat.beq a b) then _ else none) else none) = _
  rw [h, hb, hab]
  rfl
end
abbrev isT (t : Nat) : Prop := t = 5 ∨ t = 91
theorem obT {t : Nat} (h : isT t) : zob t 6 = true := by rcases h with rfl | rfl <;> rfl
theorem R6_0 {L t : Nat} (h : isT t) (z : zS) : (O2 L).2.1 z t 6 0 = some (t + 1) := by rcases h with rfl | rfl <;> rfl
theorem W6_0 {t : Nat} (h : isT t) : zrow (t + 1) = true ∧ zmo (t + 1) = 1000 := by rcases h with rfl | rfl <;> exact ⟨rfl, rfl⟩
theorem R6_1 {L t : Nat} (h : isT t) (z : zS) : (O2 L).2.1 z t 6 1 = some (t + 3) := by rcases h with rfl | rfl <;> rfl
theorem W6_1 {t : Nat} (h : isT t) : zrow (t + 3) = true ∧ zmo (t + 3) = 300 := by rcases h with rfl | rfl <;> exact ⟨rfl, rfl⟩
theorem R6_2 {L t : Nat} (h : isT t) (z : zS) : (O2 L).2.1 z t 6 2 = some (t + 5) := by rcases h with rfl | rfl <;> rfl
theorem W6_2 {t : Nat} (h : isT t) : zrow (t + 5) = true ∧ zmo (t + 5) = 300 := by rcases h with rfl | rfl <;> exact ⟨rfl, rfl⟩
theorem R6_3 {L t : Nat} (h : isT t) (z : zS) : (O2 L).2.1 z t 6 3 = some (t + 7) := by rcases h with rfl | rfl <;> rfl
theorem W6_3 {t : Nat} (h : isT t) : zrow (t + 7) = true ∧ zmo (t + 7) = 300 := by rcases h with rfl | rfl <;> exact ⟨rfl, rfl⟩
theorem R6_4 {L t : Nat} (h : isT t) (z : zS) : (O2 L).2.1 z t 6 4 = some (t + 9) := by rcases h with rfl | rfl <;> rfl
theorem W6_4 {t : Nat} (h : isT t) : zrow (t + 9) = true ∧ zmo (t + 9) = 300 := by rcases h with rfl | rfl <;> exact ⟨rfl, rfl⟩
theorem R6_5 {L t : Nat} (h : isT t) (z : zS) : (O2 L).2.1 z t 6 5 = some (t + 11) := by rcases h with rfl | rfl <;> rfl
theorem W6_5 {t : Nat} (h : isT t) : zrow (t + 11) = true ∧ zmo (t + 11) = 1000 := by rcases h with rfl | rfl <;> exact ⟨rfl, rfl⟩
theorem R6_6 {L t : Nat} (h : isT t) (z : zS) : (O2 L).2.1 z t 6 6 = some (t + 13) := by rcases h with rfl | rfl <;> rfl
theorem W6_6 {t : Nat} (h : isT t) : zrow (t + 13) = true ∧ zmo (t + 13) = 300 := by rcases h with rfl | rfl <;> exact ⟨rfl, rfl⟩
theorem R6_7 {L t : Nat} (h : isT t) (z : zS) : (O2 L).2.1 z t 6 7 = some (t + 15) := by rcases h with rfl | rfl <;> rfl
theorem W6_7 {t : Nat} (h : isT t) : zrow (t + 15) = true ∧ zmo (t + 15) = 300 := by rcases h with rfl | rfl <;> exact ⟨rfl, rfl⟩
theorem R6_8 {L t : Nat} (h : isT t) (z : zS) : (O2 L).2.1 z t 6 8 = some (t + 17) := by rcases h with rfl | rfl <;> rfl
theorem W6_8 {t : Nat} (h : isT t) : zrow (t + 17) = true ∧ zmo (t + 17) = 300 := by rcases h with rfl | rfl <;> exact ⟨rfl, rfl⟩
theorem R6_9 {L t : Nat} (h : isT t) (z : zS) : (O2 L).2.1 z t 6 9 = some (t + 19) := by rcases h with rfl | rfl <;> rfl
theorem W6_9 {t : Nat} (h : isT t) : zrow (t + 19) = true ∧ zmo (t + 19) = 300 := by rcases h with rfl | rfl <;> exact ⟨rfl, rfl⟩
theorem R6_10 {L t : Nat} (h : isT t) (z : zS) : (O2 L).2.1 z t 6 10 = some (t + 21) := by rcases h with rfl | rfl <;> rfl
theorem W6_10 {t : Nat} (h : isT t) : zob (t + 21) 5 = true := by rcases h with rfl | rfl <;> rfl
theorem I6_11 {L t : Nat} (h : isT t) (z : zS) : (O2 L).1 z t 6 11 = some (z.2.1 t 11) := by rcases h with rfl | rfl <;> rfl
theorem P6_11 {L t : Nat} (h : isT t) (z : zS) (x : Int32) : (O2 L).2.2.1 z t 6 11 (.int x) = some (z.1, zup z.2.1 t 11 x, z.2.2) := by rcases h with rfl | rfl <;> rfl
theorem I6_12 {L t : Nat} (h : isT t) (z : zS) : (O2 L).1 z t 6 12 = some (z.2.1 t 12) := by rcases h with rfl | rfl <;> rfl
theorem P6_12 {L t : Nat} (h : isT t) (z : zS) (x : Int32) : (O2 L).2.2.1 z t 6 12 (.int x) = some (z.1, zup z.2.1 t 12 x, z.2.2) := by rcases h with rfl | rfl <;> rfl
theorem I6_13 {L t : Nat} (h : isT t) (z : zS) : (O2 L).1 z t 6 13 = some (z.2.1 t 13) := by rcases h with rfl | rfl <;> rfl
theorem P6_13 {L t : Nat} (h : isT t) (z : zS) (x : Int32) : (O2 L).2.2.1 z t 6 13 (.int x) = some (z.1, zup z.2.1 t 13 x, z.2.2) := by rcases h with rfl | rfl <;> rfl
theorem I6_14 {L t : Nat} (h : isT t) (z : zS) : (O2 L).1 z t 6 14 = some (z.2.1 t 14) := by rcases h with rfl | rfl <;> rfl
theorem P6_14 {L t : Nat} (h : isT t) (z : zS) (x : Int32) : (O2 L).2.2.1 z t 6 14 (.int x) = some (z.1, zup z.2.1 t 14 x, z.2.2) := by rcases h with rfl | rfl <;> rfl
theorem I6_15 {L t : Nat} (h : isT t) (z : zS) : (O2 L).1 z t 6 15 = some (z.2.1 t 15) := by rcases h with rfl | rfl <;> rfl
theorem P6_15 {L t : Nat} (h : isT t) (z : zS) (x : Int32) : (O2 L).2.2.1 z t 6 15 (.int x) = some (z.1, zup z.2.1 t 15 x, z.2.2) := by rcases h with rfl | rfl <;> rfl
abbrev isQ (t : Nat) : Prop := t = 29 ∨ t = 115
theorem obQ {t : Nat} (h : isQ t) : zob t 3 = true := by rcases h with rfl | rfl <;> rfl
theorem R3_0 {L t : Nat} (h : isQ t) (z : zS) : (O2 L).2.1 z t 3 0 = some (t + 1) := by rcases h with rfl | rfl <;> rfl
theorem W3_0 {t : Nat} (h : isQ t) : zrow (t + 1) = true ∧ zmo (t + 1) = 1000 := by rcases h with rfl | rfl <;> exact ⟨rfl, rfl⟩
theorem R3_1 {L t : Nat} (h : isQ t) (z : zS) : (O2 L).2.1 z t 3 1 = some (t + 3) := by rcases h with rfl | rfl <;> rfl
theorem W3_1 {t : Nat} (h : isQ t) : zrow (t + 3) = true ∧ zmo (t + 3) = 72 := by rcases h with rfl | rfl <;> exact ⟨rfl, rfl⟩
theorem R3_2 {L t : Nat} (h : isQ t) (z : zS) : (O2 L).2.1 z t 3 2 = some (t + 5) := by rcases h with rfl | rfl <;> rfl
theorem W3_2 {t : Nat} (h : isQ t) : zrow (t + 5) = true ∧ zmo (t + 5) = 72 := by rcases h with rfl | rfl <;> exact ⟨rfl, rfl⟩
theorem R3_3 {L t : Nat} (h : isQ t) (z : zS) : (O2 L).2.1 z t 3 3 = some (t + 7) := by rcases h with rfl | rfl <;> rfl
theorem W3_3 {t : Nat} (h : isQ t) : zrow (t + 7) = true ∧ zmo (t + 7) = 72 := by rcases h with rfl | rfl <;> exact ⟨rfl, rfl⟩
theorem R3_4 {L t : Nat} (h : isQ t) (z : zS) : (O2 L).2.1 z t 3 4 = some (t + 9) := by rcases h with rfl | rfl <;> rfl
theorem W3_4 {t : Nat} (h : isQ t) : zrow (t + 9) = true ∧ zmo (t + 9) = 12 := by rcases h with rfl | rfl <;> exact ⟨rfl, rfl⟩
theorem R3_5 {L t : Nat} (h : isQ t) (z : zS) : (O2 L).2.1 z t 3 5 = some (t + 11) := by rcases h with rfl | rfl <;> rfl
theorem W3_5 {t : Nat} (h : isQ t) : zrow (t + 11) = true ∧ zmo (t + 11) = 12 := by rcases h with rfl | rfl <;> exact ⟨rfl, rfl⟩
theorem R3_6 {L t : Nat} (h : isQ t) (z : zS) : (O2 L).2.1 z t 3 6 = some (t + 13) := by rcases h with rfl | rfl <;> rfl
theorem W3_6 {t : Nat} (h : isQ t) : zrow (t + 13) = true ∧ zmo (t + 13) = 12 := by rcases h with rfl | rfl <;> exact ⟨rfl, rfl⟩
theorem R3_7 {L t : Nat} (h : isQ t) (z : zS) : (O2 L).2.1 z t 3 7 = some (t + 15) := by rcases h with rfl | rfl <;> rfl
theorem W3_7 {t : Nat} (h : isQ t) : zrow (t + 15) = true ∧ zmo (t + 15) = 400 := by rcases h with rfl | rfl <;> exact ⟨rfl, rfl⟩
theorem R3_8 {L t : Nat} (h : isQ t) (z : zS) : (O2 L).2.1 z t 3 8 = some (t + 17) := by rcases h with rfl | rfl <;> rfl
theorem W3_8 {t : Nat} (h : isQ t) : zrow (t + 17) = true ∧ zmo (t + 17) = 400 := by rcases h with rfl | rfl <;> exact ⟨rfl, rfl⟩
theorem R3_9 {L t : Nat} (h : isQ t) (z : zS) : (O2 L).2.1 z t 3 9 = some (t + 19) := by rcases h with rfl | rfl <;> rfl
theorem W3_9 {t : Nat} (h : isQ t) : zrow (t + 19) = true ∧ zmo (t + 19) = 400 := by rcases h with rfl | rfl <;> exact ⟨rfl, rfl⟩
theorem I3_10 {L t : Nat} (h : isQ t) (z : zS) : (O2 L).1 z t 3 10 = some (z.2.1 t 10) := by rcases h with rfl | rfl <;> rfl
theorem P3_10 {L t : Nat} (h : isQ t) (z : zS) (x : Int32) : (O2 L).2.2.1 z t 3 10 (.int x) = some (z.1, zup z.2.1 t 10 x, z.2.2) := by rcases h with rfl | rfl <;> rfl
theorem I3_11 {L t : Nat} (h : isQ t) (z : zS) : (O2 L).1 z t 3 11 = some (z.2.1 t 11) := by rcases h with rfl | rfl <;> rfl
theorem P3_11 {L t : Nat} (h : isQ t) (z : zS) (x : Int32) : (O2 L).2.2.1 z t 3 11 (.int x) = some (z.1, zup z.2.1 t 11 x, z.2.2) := by rcases h with rfl | rfl <;> rfl
theorem I3_12 {L t : Nat} (h : isQ t) (z : zS) : (O2 L).1 z t 3 12 = some (z.2.1 t 12) := by rcases h with rfl | rfl <;> rfl
theorem P3_12 {L t : Nat} (h : isQ t) (z : zS) (x : Int32) : (O2 L).2.2.1 z t 3 12 (.int x) = some (z.1, zup z.2.1 t 12 x, z.2.2) := by rcases h with rfl | rfl <;> rfl
theorem I3_13 {L t : Nat} (h : isQ t) (z : zS) : (O2 L).1 z t 3 13 = some (z.2.1 t 13) := by rcases h with rfl | rfl <;> rfl
theorem P3_13 {L t : Nat} (h : isQ t) (z : zS) (x : Int32) : (O2 L).2.2.1 z t 3 13 (.int x) = some (z.1, zup z.2.1 t 13 x, z.2.2) := by rcases h with rfl | rfl <;> rfl
abbrev isG (t : Nat) : Prop := t = 26 ∨ t = 88 ∨ t = 112
theorem obG {t : Nat} (h : isG t) : zob t 5 = true := by rcases h with rfl | rfl | rfl <;> rfl
theorem R5_0 {L t : Nat} (h : isG t) (z : zS) : (O2 L).2.1 z t 5 0 = some (t + 1) := by rcases h with rfl | rfl | rfl <;> rfl
theorem W5_0 {t : Nat} (h : isG t) : zrow (t + 1) = true ∧ zmo (t + 1) = 8 := by rcases h with rfl | rfl | rfl <;> exact ⟨rfl, rfl⟩
section
variable {L : Nat}
theorem ob1 : zob 1 7 = true := rfl
theorem J1_0 (z : zS) : (O2 L).2.1 z 1 7 0 = some 2 := rfl
theorem J1_1 (z : zS) : (O2 L).2.1 z 1 7 1 = some 4 := rfl
theorem J1_2 (z : zS) : (O2 L).2.1 z 1 7 2 = some 78 := rfl
theorem J1_3 (z : zS) : (O2 L).2.1 z 1 7 3 = some 85 := rfl
theorem J1_4 (z : zS) : (O2 L).2.1 z 1 7 4 = some (z.2.2.2 1 4) := rfl
theorem K1_4 (z : zS) (x : Nat) : (O2 L).2.2.1 z 1 7 4 (.ref x) = some (z.1, z.2.1, z.2.2.1, zup z.2.2.2 1 4 x) := rfl
theorem J1_5 (z : zS) : (O2 L).2.1 z 1 7 5 = some (z.2.2.2 1 5) := rfl
theorem K1_5 (z : zS) (x : Nat) : (O2 L).2.2.1 z 1 7 5 (.ref x) = some (z.1, z.2.1, z.2.2.1, zup z.2.2.2 1 5 x) := rfl
theorem J1_6 (z : zS) : (O2 L).1 z 1 7 6 = some (z.2.1 1 6) := rfl
theorem K1_6 (z : zS) (x : Int32) : (O2 L).2.2.1 z 1 7 6 (.int x) = some (z.1, zup z.2.1 1 6 x, z.2.2) := rfl
theorem ob4 : zob 4 1 = true := rfl
theorem J4_0 (z : zS) : (O2 L).2.1 z 4 1 0 = some (z.2.2.2 4 0) := rfl
theorem K4_0 (z : zS) (x : Nat) : (O2 L).2.2.1 z 4 1 0 (.ref x) = some (z.1, z.2.1, z.2.2.1, zup z.2.2.2 4 0 x) := rfl
theorem J4_1 (z : zS) : (O2 L).2.1 z 4 1 1 = some (z.2.2.2 4 1) := rfl
theorem K4_1 (z : zS) (x : Nat) : (O2 L).2.2.1 z 4 1 1 (.ref x) = some (z.1, z.2.1, z.2.2.1, zup z.2.2.2 4 1 x) := rfl
theorem J4_2 (z : zS) : (O2 L).2.1 z 4 1 2 = some 50 := rfl
theorem J4_3 (z : zS) : (O2 L).2.1 z 4 1 3 = some 52 := rfl
theorem J4_4 (z : zS) : (O2 L).2.1 z 4 1 4 = some 54 := rfl
theorem J4_5 (z : zS) : (O2 L).2.1 z 4 1 5 = some 56 := rfl
theorem J4_6 (z : zS) : (O2 L).2.1 z 4 1 6 = some 58 := rfl
theorem J4_7 (z : zS) : (O2 L).2.1 z 4 1 7 = some 60 := rfl
theorem J4_8 (z : zS) : (O2 L).2.1 z 4 1 8 = some 62 := rfl
theorem J4_9 (z : zS) : (O2 L).2.1 z 4 1 9 = some 64 := rfl
theorem J4_10 (z : zS) : (O2 L).2.1 z 4 1 10 = some 66 := rfl
theorem J4_11 (z : zS) : (O2 L).2.1 z 4 1 11 = some 68 := rfl
theorem J4_12 (z : zS) : (O2 L).2.1 z 4 1 12 = some 70 := rfl
theorem J4_13 (z : zS) : (O2 L).2.1 z 4 1 13 = some 72 := rfl
theorem J4_14 (z : zS) : (O2 L).2.1 z 4 1 14 = some 74 := rfl
theorem J4_15 (z : zS) : (O2 L).2.1 z 4 1 15 = some 76 := rfl
theorem J4_16 (z : zS) : (O2 L).1 z 4 1 16 = some (z.2.1 4 16) := rfl
theorem K4_16 (z : zS) (x : Int32) : (O2 L).2.2.1 z 4 1 16 (.int x) = some (z.1, zup z.2.1 4 16 x, z.2.2) := rfl
theorem ob78 : zob 78 0 = true := rfl
theorem J78_0 (z : zS) : (O2 L).2.1 z 78 0 0 = some 79 := rfl
theorem J78_1 (z : zS) : (O2 L).2.1 z 78 0 1 = some 81 := rfl
theorem J78_2 (z : zS) : (O2 L).2.1 z 78 0 2 = some 83 := rfl
theorem ob85 : zob 85 2 = true := rfl
theorem J85_0 (z : zS) : (O2 L).2.1 z 85 2 0 = some 86 := rfl
theorem J85_1 (z : zS) : (O2 L).2.1 z 85 2 1 = some 88 := rfl
theorem ob136 : zob 136 8 = true := rfl
theorem J136_0 (z : zS) : (O2 L).2.1 z 136 8 0 = some 137 := rfl
theorem J136_1 (z : zS) : (O2 L).1 z 136 8 1 = some (z.2.1 136 1) := rfl
theorem K136_1 (z : zS) (x : Int32) : (O2 L).2.2.1 z 136 8 1 (.int x) = some (z.1, zup z.2.1 136 1 x, z.2.2) := rfl
theorem J136_2 (z : zS) : (O2 L).2.1 z 136 8 2 = some 138 := rfl
theorem J136_3 (z : zS) : (O2 L).1 z 136 8 3 = some (z.2.1 136 3) := rfl
theorem K136_3 (z : zS) (x : Int32) : (O2 L).2.2.1 z 136 8 3 (.int x) = some (z.1, zup z.2.1 136 3 x, z.2.2) := rfl
theorem J136_4 (z : zS) : (O2 L).1 z 136 8 4 = some (z.2.1 136 4) := rfl
theorem K136_4 (z : zS) (x : Int32) : (O2 L).2.2.1 z 136 8 4 (.int x) = some (z.1, zup z.2.1 136 4 x, z.2.2) := rfl
theorem J136_5 (z : zS) : (O2 L).2.1 z 136 8 5 = some 139 := rfl
theorem J136_6 (z : zS) : (O2 L).2.1 z 136 8 6 = some 140 := rfl
theorem J136_7 (z : zS) : (O2 L).2.1 z 136 8 7 = some 141 := rfl
theorem J136_8 (z : zS) : (O2 L).2.1 z 136 8 8 = some 142 := rfl
theorem J136_9 (z : zS) : (O2 L).2.1 z 136 8 9 = some 143 := rfl
theorem J136_10 (z : zS) : (O2 L).1 z 136 8 10 = some (z.2.1 136 10) := rfl
theorem K136_10 (z : zS) (x : Int32) : (O2 L).2.2.1 z 136 8 10 (.int x) = some (z.1, zup z.2.1 136 10 x, z.2.2) := rfl
theorem J136_11 (z : zS) : (O2 L).2.1 z 136 8 11 = some 144 := rfl
theorem J136_12 (z : zS) : (O2 L).2.1 z 136 8 12 = some 145 := rfl
theorem J136_13 (z : zS) : (O2 L).2.1 z 136 8 13 = some 146 := rfl
theorem J136_14 (z : zS) : (O2 L).1 z 136 8 14 = some (z.2.1 136 14) := rfl
theorem K136_14 (z : zS) (x : Int32) : (O2 L).2.2.1 z 136 8 14 (.int x) = some (z.1, zup z.2.1 136 14 x, z.2.2) := rfl
theorem J136_15 (z : zS) : (O2 L).2.1 z 136 8 15 = some 147 := rfl
theorem J136_16 (z : zS) : (O2 L).2.1 z 136 8 16 = some 148 := rfl
theorem J136_17 (z : zS) : (O2 L).2.1 z 136 8 17 = some 149 := rfl
theorem J136_18 (z : zS) : (O2 L).2.1 z 136 8 18 = some 150 := rfl
theorem J136_19 (z : zS) : (O2 L).1 z 136 8 19 = some (z.2.1 136 19) := rfl
theorem K136_19 (z : zS) (x : Int32) : (O2 L).2.2.1 z 136 8 19 (.int x) = some (z.1, zup z.2.1 136 19 x, z.2.2) := rfl
theorem J136_20 (z : zS) : (O2 L).2.1 z 136 8 20 = some 151 := rfl
theorem J136_21 (z : zS) : (O2 L).1 z 136 8 21 = some (z.2.1 136 21) := rfl
theorem K136_21 (z : zS) (x : Int32) : (O2 L).2.2.1 z 136 8 21 (.int x) = some (z.1, zup z.2.1 136 21 x, z.2.2) := rfl
theorem J136_22 (z : zS) : (O2 L).2.1 z 136 8 22 = some 152 := rfl
theorem J136_23 (z : zS) : (O2 L).2.1 z 136 8 23 = some 153 := rfl
theorem J136_24 (z : zS) : (O2 L).2.1 z 136 8 24 = some 154 := rfl
theorem J136_25 (z : zS) : (O2 L).1 z 136 8 25 = some (z.2.1 136 25) := rfl
theorem K136_25 (z : zS) (x : Int32) : (O2 L).2.2.1 z 136 8 25 (.int x) = some (z.1, zup z.2.1 136 25 x, z.2.2) := rfl
theorem J136_26 (z : zS) : (O2 L).2.1 z 136 8 26 = some 155 := rfl
theorem J136_27 (z : zS) : (O2 L).2.1 z 136 8 27 = some 156 := rfl
theorem J136_28 (z : zS) : (O2 L).2.1 z 136 8 28 = some 157 := rfl
theorem J136_29 (z : zS) : (O2 L).2.1 z 136 8 29 = some 158 := rfl
theorem J136_30 (z : zS) : (O2 L).1 z 136 8 30 = some (z.2.1 136 30) := rfl
theorem K136_30 (z : zS) (x : Int32) : (O2 L).2.2.1 z 136 8 30 (.int x) = some (z.1, zup z.2.1 136 30 x, z.2.2) := rfl
theorem J136_31 (z : zS) : (O2 L).2.1 z 136 8 31 = some 159 := rfl
theorem J136_32 (z : zS) : (O2 L).2.1 z 136 8 32 = some 160 := rfl
theorem J136_33 (z : zS) : (O2 L).2.1 z 136 8 33 = some 161 := rfl
theorem J136_34 (z : zS) : (O2 L).2.1 z 136 8 34 = some 162 := rfl
theorem J136_35 (z : zS) : (O2 L).2.1 z 136 8 35 = some 163 := rfl
theorem J136_36 (z : zS) : (O2 L).1 z 136 8 36 = some (z.2.1 136 36) := rfl
theorem K136_36 (z : zS) (x : Int32) : (O2 L).2.2.1 z 136 8 36 (.int x) = some (z.1, zup z.2.1 136 36 x, z.2.2) := rfl
theorem J136_37 (z : zS) : (O2 L).2.1 z 136 8 37 = some 164 := rfl
theorem J136_38 (z : zS) : (O2 L).2.1 z 136 8 38 = some 165 := rfl
theorem J136_39 (z : zS) : (O2 L).2.1 z 136 8 39 = some 166 := rfl
theorem J136_40 (z : zS) : (O2 L).2.1 z 136 8 40 = some 167 := rfl
theorem J136_41 (z : zS) : (O2 L).2.1 z 136 8 41 = some 168 := rfl
theorem J136_42 (z : zS) : (O2 L).2.1 z 136 8 42 = some 169 := rfl
theorem J136_43 (z : zS) : (O2 L).1 z 136 8 43 = some (z.2.1 136 43) := rfl
theorem K136_43 (z : zS) (x : Int32) : (O2 L).2.2.1 z 136 8 43 (.int x) = some (z.1, zup z.2.1 136 43 x, z.2.2) := rfl
theorem J136_44 (z : zS) : (O2 L).2.1 z 136 8 44 = some 170 := rfl
theorem J136_45 (z : zS) : (O2 L).2.1 z 136 8 45 = some 171 := rfl
theorem J136_46 (z : zS) : (O2 L).2.1 z 136 8 46 = some 172 := rfl
theorem J136_47 (z : zS) : (O2 L).1 z 136 8 47 = some (z.2.1 136 47) := rfl
theorem K136_47 (z : zS) (x : Int32) : (O2 L).2.2.1 z 136 8 47 (.int x) = some (z.1, zup z.2.1 136 47 x, z.2.2) := rfl
theorem J136_48 (z : zS) : (O2 L).1 z 136 8 48 = some (z.2.1 136 48) := rfl
theorem K136_48 (z : zS) (x : Int32) : (O2 L).2.2.1 z 136 8 48 (.int x) = some (z.1, zup z.2.1 136 48 x, z.2.2) := rfl
theorem J136_49 (z : zS) : (O2 L).2.1 z 136 8 49 = some 173 := rfl
theorem J136_50 (z : zS) : (O2 L).2.1 z 136 8 50 = some 174 := rfl
theorem J136_51 (z : zS) : (O2 L).1 z 136 8 51 = some (z.2.1 136 51) := rfl
theorem K136_51 (z : zS) (x : Int32) : (O2 L).2.2.1 z 136 8 51 (.int x) = some (z.1, zup z.2.1 136 51 x, z.2.2) := rfl
theorem J136_52 (z : zS) : (O2 L).2.1 z 136 8 52 = some 175 := rfl
theorem J136_53 (z : zS) : (O2 L).2.1 z 136 8 53 = some 176 := rfl
theorem J136_54 (z : zS) : (O2 L).2.1 z 136 8 54 = some 177 := rfl
theorem J136_55 (z : zS) : (O2 L).1 z 136 8 55 = some (z.2.1 136 55) := rfl
theorem K136_55 (z : zS) (x : Int32) : (O2 L).2.2.1 z 136 8 55 (.int x) = some (z.1, zup z.2.1 136 55 x, z.2.2) := rfl
theorem J136_56 (z : zS) : (O2 L).2.1 z 136 8 56 = some 178 := rfl
theorem J136_57 (z : zS) : (O2 L).2.1 z 136 8 57 = some 179 := rfl
theorem J136_58 (z : zS) : (O2 L).2.1 z 136 8 58 = some 180 := rfl
theorem J136_59 (z : zS) : (O2 L).1 z 136 8 59 = some (z.2.1 136 59) := rfl
theorem K136_59 (z : zS) (x : Int32) : (O2 L).2.2.1 z 136 8 59 (.int x) = some (z.1, zup z.2.1 136 59 x, z.2.2) := rfl
theorem J136_60 (z : zS) : (O2 L).2.1 z 136 8 60 = some 181 := rfl
theorem J136_61 (z : zS) : (O2 L).2.1 z 136 8 61 = some 182 := rfl
theorem J136_62 (z : zS) : (O2 L).2.1 z 136 8 62 = some 183 := rfl
theorem J136_63 (z : zS) : (O2 L).2.1 z 136 8 63 = some 184 := rfl
theorem J136_64 (z : zS) : (O2 L).1 z 136 8 64 = some (z.2.1 136 64) := rfl
theorem K136_64 (z : zS) (x : Int32) : (O2 L).2.2.1 z 136 8 64 (.int x) = some (z.1, zup z.2.1 136 64 x, z.2.2) := rfl
theorem J136_65 (z : zS) : (O2 L).2.1 z 136 8 65 = some 185 := rfl
theorem J136_66 (z : zS) : (O2 L).1 z 136 8 66 = some (z.2.1 136 66) := rfl
theorem K136_66 (z : zS) (x : Int32) : (O2 L).2.2.1 z 136 8 66 (.int x) = some (z.1, zup z.2.1 136 66 x, z.2.2) := rfl
theorem J136_67 (z : zS) : (O2 L).1 z 136 8 67 = some (z.2.1 136 67) := rfl
theorem K136_67 (z : zS) (x : Int32) : (O2 L).2.2.1 z 136 8 67 (.int x) = some (z.1, zup z.2.1 136 67 x, z.2.2) := rfl
theorem J136_68 (z : zS) : (O2 L).1 z 136 8 68 = some (z.2.1 136 68) := rfl
theorem K136_68 (z : zS) (x : Int32) : (O2 L).2.2.1 z 136 8 68 (.int x) = some (z.1, zup z.2.1 136 68 x, z.2.2) := rfl
theorem J136_69 (z : zS) : (O2 L).1 z 136 8 69 = some (z.2.1 136 69) := rfl
theorem K136_69 (z : zS) (x : Int32) : (O2 L).2.2.1 z 136 8 69 (.int x) = some (z.1, zup z.2.1 136 69 x, z.2.2) := rfl
theorem J136_70 (z : zS) : (O2 L).2.1 z 136 8 70 = some 186 := rfl
theorem J136_71 (z : zS) : (O2 L).2.1 z 136 8 71 = some 187 := rfl
theorem J136_72 (z : zS) : (O2 L).2.1 z 136 8 72 = some 188 := rfl
theorem J136_73 (z : zS) : (O2 L).2.1 z 136 8 73 = some 189 := rfl
theorem aL {t a : Nat} (ha : zar a t = true) (h0 : Nat.beq a 0 = false) (z : zS) {j : Nat} (hj : j < zln a) (hn : j < 2 ^ 31 := by omega) : (O2 L).2.2.2.2.2.1 z t a (nI j) = some (z.2.2.1 a j) := by
  show o2L L z t a (nI j) = _
  unfold o2L
  rw [h0, ha, cond_false, cond_true, nI_clamp hn, if_pos (fun q => q.elim (nI_pos hn) (fun q => by omega))]
theorem aS {t a : Nat} (ha : zar a t = true) (z : zS) {j : Nat} (x : Int32) (hj : j < zln a) (hn : j < 2 ^ 31 := by omega) : (O2 L).2.2.2.2.2.2.1 z t a (nI j) x = some (z.1, z.2.1, zup z.2.2.1 a j x, z.2.2.2) := by
  show o2S z t a (nI j) x = _
  unfold o2S
  rw [ha, cond_true, nI_clamp hn, if_pos (fun q => q.elim (nI_pos hn) (fun q => by omega))]
theorem scL (z : zS) {j : Nat} (hj : j < L) (hn : j < 2 ^ 31 := by omega) : (O2 L).2.2.2.2.2.1 z 0 0 (nI j) = some (z.2.2.1 0 j) := by
  show o2L L z 0 0 (nI j) = _
  unfold o2L
  show (if ¬ (nI j < 0 ∨ L ≤ (nI j).toNatClampNeg) then some (z.2.2.1 0 (nI j).toNatClampNeg) else none) = _
  rw [nI_clamp hn, if_pos (fun q => q.elim (nI_pos hn) (fun q => by omega))]
theorem scZ (z : zS) : (O2 L).2.2.2.2.2.2.2.1 z 0 = some (nI L) := rfl
end
theorem zup_s {α : Type} (F : Nat → Nat → α) (a f : Nat) (x : α) : zup F a f x a f = x := by simp [zup]
theorem zup_f {α : Type} (F : Nat → Nat → α) {a f g : Nat} (x : α) (h : g ≠ f) : zup F a f x a g = F a g := by simp [zup, h]
theorem zup_a {α : Type} (F : Nat → Nat → α) {a b f g : Nat} (x : α) (h : b ≠ a) : zup F a f x b g = F b g := by simp [zup, h]
