/-! THE CLASS'S MATCH: a row that was just written. Written by wip/whole/mkY.py -/
section
variable {L d : Nat} {z : zS} {R : Nat → List Nat} {f : Nat → Nat} {l : List Nat}
theorem Y0g (i : Int32) : zden L (d + 1) 56 [.ref 50, .int i] (putM z (va_up R 0 l, f)) = some (zget (l.map nI) i, putM z (va_up R 0 l, f)) := by
  have := X0g (L := L) (d := d) (z := z) (M := (va_up R 0 l, f)) i
  simp only [vs] at this
  exact this
theorem Y0w {i v : Nat} (hi : i < l.length) (hl : l.length ≤ 400) : zden L (d + 1) 58 [.ref 50, .int (nI i), .int (nI v)] (putM z (va_up R 0 l, f)) = some (0, putM z (va_up R 0 (l.set i v), f)) := by
  have := X0w (L := L) (d := d) (z := z) (M := (va_up R 0 l, f)) (i := i) (v := v) (by simp only [vs]; exact hi) (by simp only [vs]; exact hl)
  simp only [vs, vv] at this
  exact this
theorem Y0h {i b : Nat} (hi : i < 2 ^ 31) (hl : l.length ≤ 400) (hb : b < 31) : zden L (d + 1) 60 [.ref 50, .int (nI i), .int (nI b)] (putM z (va_up R 0 l, f)) = some (bI ((l.getD i 0).testBit b), putM z (va_up R 0 l, f)) := by
  have := X0h (L := L) (d := d) (z := z) (M := (va_up R 0 l, f)) (i := i) (b := b) hi (by simp only [vs]; exact hl) hb
  simp only [vs] at this
  exact this
theorem Y0a (v : Nat) (hl : l.length < 12) : zden L (d + 2) 61 [.ref 50, .int (nI v)] (putM z (va_up R 0 l, f)) = some (0, putM z (va_up R 0 (l ++ [v]), f)) := by
  have := X0a (L := L) (d := d) (z := z) (M := (va_up R 0 l, f)) v (by simp only [vs]; exact hl)
  simp only [vs, vv] at this
  exact this
theorem Y0s : zden L (d + 1) 55 [.ref 50] (putM z (va_up R 0 l, f)) = some (nI l.length, putM z (va_up R 0 l, f)) := by
  have := X0s (L := L) (d := d) (z := z) (M := (va_up R 0 l, f))
  simp only [vs] at this
  exact this
theorem Y1g (i : Int32) : zden L (d + 1) 56 [.ref 52, .int i] (putM z (va_up R 1 l, f)) = some (zget (l.map nI) i, putM z (va_up R 1 l, f)) := by
  have := X1g (L := L) (d := d) (z := z) (M := (va_up R 1 l, f)) i
  simp only [vs] at this
  exact this
theorem Y1w {i v : Nat} (hi : i < l.length) (hl : l.length ≤ 400) : zden L (d + 1) 58 [.ref 52, .int (nI i), .int (nI v)] (putM z (va_up R 1 l, f)) = some (0, putM z (va_up R 1 (l.set i v), f)) := by
  have := X1w (L := L) (d := d) (z := z) (M := (va_up R 1 l, f)) (i := i) (v := v) (by simp only [vs]; exact hi) (by simp only [vs]; exact hl)
  simp only [vs, vv] at this
  exact this
theorem Y1h {i b : Nat} (hi : i < 2 ^ 31) (hl : l.length ≤ 400) (hb : b < 31) : zden L (d + 1) 60 [.ref 52, .int (nI i), .int (nI b)] (putM z (va_up R 1 l, f)) = some (bI ((l.getD i 0).testBit b), putM z (va_up R 1 l, f)) := by
  have := X1h (L := L) (d := d) (z := z) (M := (va_up R 1 l, f)) (i := i) (b := b) hi (by simp only [vs]; exact hl) hb
  simp only [vs] at this
  exact this
theorem Y1a (v : Nat) (hl : l.length < 12) : zden L (d + 2) 61 [.ref 52, .int (nI v)] (putM z (va_up R 1 l, f)) = some (0, putM z (va_up R 1 (l ++ [v]), f)) := by
  have := X1a (L := L) (d := d) (z := z) (M := (va_up R 1 l, f)) v (by simp only [vs]; exact hl)
  simp only [vs, vv] at this
  exact this
theorem Y1s : zden L (d + 1) 55 [.ref 52] (putM z (va_up R 1 l, f)) = some (nI l.length, putM z (va_up R 1 l, f)) := by
  have := X1s (L := L) (d := d) (z := z) (M := (va_up R 1 l, f))
  simp only [vs] at this
  exact this
theorem Y2g (i : Int32) : zden L (d + 1) 56 [.ref 54, .int i] (putM z (va_up R 2 l, f)) = some (zget (l.map nI) i, putM z (va_up R 2 l, f)) := by
  have := X2g (L := L) (d := d) (z := z) (M := (va_up R 2 l, f)) i
  simp only [vs] at this
  exact this
theorem Y2w {i v : Nat} (hi : i < l.length) (hl : l.length ≤ 400) : zden L (d + 1) 58 [.ref 54, .int (nI i), .int (nI v)] (putM z (va_up R 2 l, f)) = some (0, putM z (va_up R 2 (l.set i v), f)) := by
  have := X2w (L := L) (d := d) (z := z) (M := (va_up R 2 l, f)) (i := i) (v := v) (by simp only [vs]; exact hi) (by simp only [vs]; exact hl)
  simp only [vs, vv] at this
  exact this
theorem Y2h {i b : Nat} (hi : i < 2 ^ 31) (hl : l.length ≤ 400) (hb : b < 31) : zden L (d + 1) 60 [.ref 54, .int (nI i), .int (nI b)] (putM z (va_up R 2 l, f)) = some (bI ((l.getD i 0).testBit b), putM z (va_up R 2 l, f)) := by
  have := X2h (L := L) (d := d) (z := z) (M := (va_up R 2 l, f)) (i := i) (b := b) hi (by simp only [vs]; exact hl) hb
  simp only [vs] at this
  exact this
theorem Y2a (v : Nat) (hl : l.length < 300) : zden L (d + 2) 61 [.ref 54, .int (nI v)] (putM z (va_up R 2 l, f)) = some (0, putM z (va_up R 2 (l ++ [v]), f)) := by
  have := X2a (L := L) (d := d) (z := z) (M := (va_up R 2 l, f)) v (by simp only [vs]; exact hl)
  simp only [vs, vv] at this
  exact this
theorem Y2s : zden L (d + 1) 55 [.ref 54] (putM z (va_up R 2 l, f)) = some (nI l.length, putM z (va_up R 2 l, f)) := by
  have := X2s (L := L) (d := d) (z := z) (M := (va_up R 2 l, f))
  simp only [vs] at this
  exact this
theorem Y3g (i : Int32) : zden L (d + 1) 56 [.ref 56, .int i] (putM z (va_up R 3 l, f)) = some (zget (l.map nI) i, putM z (va_up R 3 l, f)) := by
  have := X3g (L := L) (d := d) (z := z) (M := (va_up R 3 l, f)) i
  simp only [vs] at this
  exact this
theorem Y3w {i v : Nat} (hi : i < l.length) (hl : l.length ≤ 400) : zden L (d + 1) 58 [.ref 56, .int (nI i), .int (nI v)] (putM z (va_up R 3 l, f)) = some (0, putM z (va_up R 3 (l.set i v), f)) := by
  have := X3w (L := L) (d := d) (z := z) (M := (va_up R 3 l, f)) (i := i) (v := v) (by simp only [vs]; exact hi) (by simp only [vs]; exact hl)
  simp only [vs, vv] at this
  exact this
theorem Y3h {i b : Nat} (hi : i < 2 ^ 31) (hl : l.length ≤ 400) (hb : b < 31) : zden L (d + 1) 60 [.ref 56, .int (nI i), .int (nI b)] (putM z (va_up R 3 l, f)) = some (bI ((l.getD i 0).testBit b), putM z (va_up R 3 l, f)) := by
  have := X3h (L := L) (d := d) (z := z) (M := (va_up R 3 l, f)) (i := i) (b := b) hi (by simp only [vs]; exact hl) hb
  simp only [vs] at this
  exact this
theorem Y3a (v : Nat) (hl : l.length < 300) : zden L (d + 2) 61 [.ref 56, .int (nI v)] (putM z (va_up R 3 l, f)) = some (0, putM z (va_up R 3 (l ++ [v]), f)) := by
  have := X3a (L := L) (d := d) (z := z) (M := (va_up R 3 l, f)) v (by simp only [vs]; exact hl)
  simp only [vs, vv] at this
  exact this
theorem Y3s : zden L (d + 1) 55 [.ref 56] (putM z (va_up R 3 l, f)) = some (nI l.length, putM z (va_up R 3 l, f)) := by
  have := X3s (L := L) (d := d) (z := z) (M := (va_up R 3 l, f))
  simp only [vs] at this
  exact this
theorem Y4g (i : Int32) : zden L (d + 1) 56 [.ref 58, .int i] (putM z (va_up R 4 l, f)) = some (zget (l.map nI) i, putM z (va_up R 4 l, f)) := by
  have := X4g (L := L) (d := d) (z := z) (M := (va_up R 4 l, f)) i
  simp only [vs] at this
  exact this
theorem Y4w {i v : Nat} (hi : i < l.length) (hl : l.length ≤ 400) : zden L (d + 1) 58 [.ref 58, .int (nI i), .int (nI v)] (putM z (va_up R 4 l, f)) = some (0, putM z (va_up R 4 (l.set i v), f)) := by
  have := X4w (L := L) (d := d) (z := z) (M := (va_up R 4 l, f)) (i := i) (v := v) (by simp only [vs]; exact hi) (by simp only [vs]; exact hl)
  simp only [vs, vv] at this
  exact this
theorem Y4h {i b : Nat} (hi : i < 2 ^ 31) (hl : l.length ≤ 400) (hb : b < 31) : zden L (d + 1) 60 [.ref 58, .int (nI i), .int (nI b)] (putM z (va_up R 4 l, f)) = some (bI ((l.getD i 0).testBit b), putM z (va_up R 4 l, f)) := by
  have := X4h (L := L) (d := d) (z := z) (M := (va_up R 4 l, f)) (i := i) (b := b) hi (by simp only [vs]; exact hl) hb
  simp only [vs] at this
  exact this
theorem Y4a (v : Nat) (hl : l.length < 300) : zden L (d + 2) 61 [.ref 58, .int (nI v)] (putM z (va_up R 4 l, f)) = some (0, putM z (va_up R 4 (l ++ [v]), f)) := by
  have := X4a (L := L) (d := d) (z := z) (M := (va_up R 4 l, f)) v (by simp only [vs]; exact hl)
  simp only [vs, vv] at this
  exact this
theorem Y4s : zden L (d + 1) 55 [.ref 58] (putM z (va_up R 4 l, f)) = some (nI l.length, putM z (va_up R 4 l, f)) := by
  have := X4s (L := L) (d := d) (z := z) (M := (va_up R 4 l, f))
  simp only [vs] at this
  exact this
theorem Y5g (i : Int32) : zden L (d + 1) 56 [.ref 60, .int i] (putM z (va_up R 5 l, f)) = some (zget (l.map nI) i, putM z (va_up R 5 l, f)) := by
  have := X5g (L := L) (d := d) (z := z) (M := (va_up R 5 l, f)) i
  simp only [vs] at this
  exact this
theorem Y5w {i v : Nat} (hi : i < l.length) (hl : l.length ≤ 400) : zden L (d + 1) 58 [.ref 60, .int (nI i), .int (nI v)] (putM z (va_up R 5 l, f)) = some (0, putM z (va_up R 5 (l.set i v), f)) := by
  have := X5w (L := L) (d := d) (z := z) (M := (va_up R 5 l, f)) (i := i) (v := v) (by simp only [vs]; exact hi) (by simp only [vs]; exact hl)
  simp only [vs, vv] at this
  exact this
theorem Y5h {i b : Nat} (hi : i < 2 ^ 31) (hl : l.length ≤ 400) (hb : b < 31) : zden L (d + 1) 60 [.ref 60, .int (nI i), .int (nI b)] (putM z (va_up R 5 l, f)) = some (bI ((l.getD i 0).testBit b), putM z (va_up R 5 l, f)) := by
  have := X5h (L := L) (d := d) (z := z) (M := (va_up R 5 l, f)) (i := i) (b := b) hi (by simp only [vs]; exact hl) hb
  simp only [vs] at this
  exact this
theorem Y5a (v : Nat) (hl : l.length < 300) : zden L (d + 2) 61 [.ref 60, .int (nI v)] (putM z (va_up R 5 l, f)) = some (0, putM z (va_up R 5 (l ++ [v]), f)) := by
  have := X5a (L := L) (d := d) (z := z) (M := (va_up R 5 l, f)) v (by simp only [vs]; exact hl)
  simp only [vs, vv] at this
  exact this
theorem Y5s : zden L (d + 1) 55 [.ref 60] (putM z (va_up R 5 l, f)) = some (nI l.length, putM z (va_up R 5 l, f)) := by
  have := X5s (L := L) (d := d) (z := z) (M := (va_up R 5 l, f))
  simp only [vs] at this
  exact this
theorem Y6g (i : Int32) : zden L (d + 1) 56 [.ref 62, .int i] (putM z (va_up R 6 l, f)) = some (zget (l.map nI) i, putM z (va_up R 6 l, f)) := by
  have := X6g (L := L) (d := d) (z := z) (M := (va_up R 6 l, f)) i
  simp only [vs] at this
  exact this
theorem Y6w {i v : Nat} (hi : i < l.length) (hl : l.length ≤ 400) : zden L (d + 1) 58 [.ref 62, .int (nI i), .int (nI v)] (putM z (va_up R 6 l, f)) = some (0, putM z (va_up R 6 (l.set i v), f)) := by
  have := X6w (L := L) (d := d) (z := z) (M := (va_up R 6 l, f)) (i := i) (v := v) (by simp only [vs]; exact hi) (by simp only [vs]; exact hl)
  simp only [vs, vv] at this
  exact this
theorem Y6h {i b : Nat} (hi : i < 2 ^ 31) (hl : l.length ≤ 400) (hb : b < 31) : zden L (d + 1) 60 [.ref 62, .int (nI i), .int (nI b)] (putM z (va_up R 6 l, f)) = some (bI ((l.getD i 0).testBit b), putM z (va_up R 6 l, f)) := by
  have := X6h (L := L) (d := d) (z := z) (M := (va_up R 6 l, f)) (i := i) (b := b) hi (by simp only [vs]; exact hl) hb
  simp only [vs] at this
  exact this
theorem Y6a (v : Nat) (hl : l.length < 300) : zden L (d + 2) 61 [.ref 62, .int (nI v)] (putM z (va_up R 6 l, f)) = some (0, putM z (va_up R 6 (l ++ [v]), f)) := by
  have := X6a (L := L) (d := d) (z := z) (M := (va_up R 6 l, f)) v (by simp only [vs]; exact hl)
  simp only [vs, vv] at this
  exact this
theorem Y6s : zden L (d + 1) 55 [.ref 62] (putM z (va_up R 6 l, f)) = some (nI l.length, putM z (va_up R 6 l, f)) := by
  have := X6s (L := L) (d := d) (z := z) (M := (va_up R 6 l, f))
  simp only [vs] at this
  exact this
theorem Y7g (i : Int32) : zden L (d + 1) 56 [.ref 64, .int i] (putM z (va_up R 7 l, f)) = some (zget (l.map nI) i, putM z (va_up R 7 l, f)) := by
  have := X7g (L := L) (d := d) (z := z) (M := (va_up R 7 l, f)) i
  simp only [vs] at this
  exact this
theorem Y7w {i v : Nat} (hi : i < l.length) (hl : l.length ≤ 400) : zden L (d + 1) 58 [.ref 64, .int (nI i), .int (nI v)] (putM z (va_up R 7 l, f)) = some (0, putM z (va_up R 7 (l.set i v), f)) := by
  have := X7w (L := L) (d := d) (z := z) (M := (va_up R 7 l, f)) (i := i) (v := v) (by simp only [vs]; exact hi) (by simp only [vs]; exact hl)
  simp only [vs, vv] at this
  exact this
theorem Y7h {i b : Nat} (hi : i < 2 ^ 31) (hl : l.length ≤ 400) (hb : b < 31) : zden L (d + 1) 60 [.ref 64, .int (nI i), .int (nI b)] (putM z (va_up R 7 l, f)) = some (bI ((l.getD i 0).testBit b), putM z (va_up R 7 l, f)) := by
  have := X7h (L := L) (d := d) (z := z) (M := (va_up R 7 l, f)) (i := i) (b := b) hi (by simp only [vs]; exact hl) hb
  simp only [vs] at this
  exact this
theorem Y7a (v : Nat) (hl : l.length < 300) : zden L (d + 2) 61 [.ref 64, .int (nI v)] (putM z (va_up R 7 l, f)) = some (0, putM z (va_up R 7 (l ++ [v]), f)) := by
  have := X7a (L := L) (d := d) (z := z) (M := (va_up R 7 l, f)) v (by simp only [vs]; exact hl)
  simp only [vs, vv] at this
  exact this
theorem Y7s : zden L (d + 1) 55 [.ref 64] (putM z (va_up R 7 l, f)) = some (nI l.length, putM z (va_up R 7 l, f)) := by
  have := X7s (L := L) (d := d) (z := z) (M := (va_up R 7 l, f))
  simp only [vs] at this
  exact this
theorem Y8g (i : Int32) : zden L (d + 1) 56 [.ref 66, .int i] (putM z (va_up R 8 l, f)) = some (zget (l.map nI) i, putM z (va_up R 8 l, f)) := by
  have := X8g (L := L) (d := d) (z := z) (M := (va_up R 8 l, f)) i
  simp only [vs] at this
  exact this
theorem Y8w {i v : Nat} (hi : i < l.length) (hl : l.length ≤ 400) : zden L (d + 1) 58 [.ref 66, .int (nI i), .int (nI v)] (putM z (va_up R 8 l, f)) = some (0, putM z (va_up R 8 (l.set i v), f)) := by
  have := X8w (L := L) (d := d) (z := z) (M := (va_up R 8 l, f)) (i := i) (v := v) (by simp only [vs]; exact hi) (by simp only [vs]; exact hl)
  simp only [vs, vv] at this
  exact this
theorem Y8h {i b : Nat} (hi : i < 2 ^ 31) (hl : l.length ≤ 400) (hb : b < 31) : zden L (d + 1) 60 [.ref 66, .int (nI i), .int (nI b)] (putM z (va_up R 8 l, f)) = some (bI ((l.getD i 0).testBit b), putM z (va_up R 8 l, f)) := by
  have := X8h (L := L) (d := d) (z := z) (M := (va_up R 8 l, f)) (i := i) (b := b) hi (by simp only [vs]; exact hl) hb
  simp only [vs] at this
  exact this
theorem Y8a (v : Nat) (hl : l.length < 300) : zden L (d + 2) 61 [.ref 66, .int (nI v)] (putM z (va_up R 8 l, f)) = some (0, putM z (va_up R 8 (l ++ [v]), f)) := by
  have := X8a (L := L) (d := d) (z := z) (M := (va_up R 8 l, f)) v (by simp only [vs]; exact hl)
  simp only [vs, vv] at this
  exact this
theorem Y8s : zden L (d + 1) 55 [.ref 66] (putM z (va_up R 8 l, f)) = some (nI l.length, putM z (va_up R 8 l, f)) := by
  have := X8s (L := L) (d := d) (z := z) (M := (va_up R 8 l, f))
  simp only [vs] at this
  exact this
theorem Y9g (i : Int32) : zden L (d + 1) 56 [.ref 68, .int i] (putM z (va_up R 9 l, f)) = some (zget (l.map nI) i, putM z (va_up R 9 l, f)) := by
  have := X9g (L := L) (d := d) (z := z) (M := (va_up R 9 l, f)) i
  simp only [vs] at this
  exact this
theorem Y9w {i v : Nat} (hi : i < l.length) (hl : l.length ≤ 400) : zden L (d + 1) 58 [.ref 68, .int (nI i), .int (nI v)] (putM z (va_up R 9 l, f)) = some (0, putM z (va_up R 9 (l.set i v), f)) := by
  have := X9w (L := L) (d := d) (z := z) (M := (va_up R 9 l, f)) (i := i) (v := v) (by simp only [vs]; exact hi) (by simp only [vs]; exact hl)
  simp only [vs, vv] at this
  exact this
theorem Y9h {i b : Nat} (hi : i < 2 ^ 31) (hl : l.length ≤ 400) (hb : b < 31) : zden L (d + 1) 60 [.ref 68, .int (nI i), .int (nI b)] (putM z (va_up R 9 l, f)) = some (bI ((l.getD i 0).testBit b), putM z (va_up R 9 l, f)) := by
  have := X9h (L := L) (d := d) (z := z) (M := (va_up R 9 l, f)) (i := i) (b := b) hi (by simp only [vs]; exact hl) hb
  simp only [vs] at this
  exact this
theorem Y9a (v : Nat) (hl : l.length < 300) : zden L (d + 2) 61 [.ref 68, .int (nI v)] (putM z (va_up R 9 l, f)) = some (0, putM z (va_up R 9 (l ++ [v]), f)) := by
  have := X9a (L := L) (d := d) (z := z) (M := (va_up R 9 l, f)) v (by simp only [vs]; exact hl)
  simp only [vs, vv] at this
  exact this
theorem Y9s : zden L (d + 1) 55 [.ref 68] (putM z (va_up R 9 l, f)) = some (nI l.length, putM z (va_up R 9 l, f)) := by
  have := X9s (L := L) (d := d) (z := z) (M := (va_up R 9 l, f))
  simp only [vs] at this
  exact this
theorem Y10g (i : Int32) : zden L (d + 1) 56 [.ref 70, .int i] (putM z (va_up R 10 l, f)) = some (zget (l.map nI) i, putM z (va_up R 10 l, f)) := by
  have := X10g (L := L) (d := d) (z := z) (M := (va_up R 10 l, f)) i
  simp only [vs] at this
  exact this
theorem Y10w {i v : Nat} (hi : i < l.length) (hl : l.length ≤ 400) : zden L (d + 1) 58 [.ref 70, .int (nI i), .int (nI v)] (putM z (va_up R 10 l, f)) = some (0, putM z (va_up R 10 (l.set i v), f)) := by
  have := X10w (L := L) (d := d) (z := z) (M := (va_up R 10 l, f)) (i := i) (v := v) (by simp only [vs]; exact hi) (by simp only [vs]; exact hl)
  simp only [vs, vv] at this
  exact this
theorem Y10h {i b : Nat} (hi : i < 2 ^ 31) (hl : l.length ≤ 400) (hb : b < 31) : zden L (d + 1) 60 [.ref 70, .int (nI i), .int (nI b)] (putM z (va_up R 10 l, f)) = some (bI ((l.getD i 0).testBit b), putM z (va_up R 10 l, f)) := by
  have := X10h (L := L) (d := d) (z := z) (M := (va_up R 10 l, f)) (i := i) (b := b) hi (by simp only [vs]; exact hl) hb
  simp only [vs] at this
  exact this
theorem Y10a (v : Nat) (hl : l.length < 6) : zden L (d + 2) 61 [.ref 70, .int (nI v)] (putM z (va_up R 10 l, f)) = some (0, putM z (va_up R 10 (l ++ [v]), f)) := by
  have := X10a (L := L) (d := d) (z := z) (M := (va_up R 10 l, f)) v (by simp only [vs]; exact hl)
  simp only [vs, vv] at this
  exact this
theorem Y10s : zden L (d + 1) 55 [.ref 70] (putM z (va_up R 10 l, f)) = some (nI l.length, putM z (va_up R 10 l, f)) := by
  have := X10s (L := L) (d := d) (z := z) (M := (va_up R 10 l, f))
  simp only [vs] at this
  exact this
theorem Y11g (i : Int32) : zden L (d + 1) 56 [.ref 72, .int i] (putM z (va_up R 11 l, f)) = some (zget (l.map nI) i, putM z (va_up R 11 l, f)) := by
  have := X11g (L := L) (d := d) (z := z) (M := (va_up R 11 l, f)) i
  simp only [vs] at this
  exact this
theorem Y11w {i v : Nat} (hi : i < l.length) (hl : l.length ≤ 400) : zden L (d + 1) 58 [.ref 72, .int (nI i), .int (nI v)] (putM z (va_up R 11 l, f)) = some (0, putM z (va_up R 11 (l.set i v), f)) := by
  have := X11w (L := L) (d := d) (z := z) (M := (va_up R 11 l, f)) (i := i) (v := v) (by simp only [vs]; exact hi) (by simp only [vs]; exact hl)
  simp only [vs, vv] at this
  exact this
theorem Y11h {i b : Nat} (hi : i < 2 ^ 31) (hl : l.length ≤ 400) (hb : b < 31) : zden L (d + 1) 60 [.ref 72, .int (nI i), .int (nI b)] (putM z (va_up R 11 l, f)) = some (bI ((l.getD i 0).testBit b), putM z (va_up R 11 l, f)) := by
  have := X11h (L := L) (d := d) (z := z) (M := (va_up R 11 l, f)) (i := i) (b := b) hi (by simp only [vs]; exact hl) hb
  simp only [vs] at this
  exact this
theorem Y11a (v : Nat) (hl : l.length < 6) : zden L (d + 2) 61 [.ref 72, .int (nI v)] (putM z (va_up R 11 l, f)) = some (0, putM z (va_up R 11 (l ++ [v]), f)) := by
  have := X11a (L := L) (d := d) (z := z) (M := (va_up R 11 l, f)) v (by simp only [vs]; exact hl)
  simp only [vs, vv] at this
  exact this
theorem Y11s : zden L (d + 1) 55 [.ref 72] (putM z (va_up R 11 l, f)) = some (nI l.length, putM z (va_up R 11 l, f)) := by
  have := X11s (L := L) (d := d) (z := z) (M := (va_up R 11 l, f))
  simp only [vs] at this
  exact this
theorem Y12g (i : Int32) : zden L (d + 1) 56 [.ref 74, .int i] (putM z (va_up R 12 l, f)) = some (zget (l.map nI) i, putM z (va_up R 12 l, f)) := by
  have := X12g (L := L) (d := d) (z := z) (M := (va_up R 12 l, f)) i
  simp only [vs] at this
  exact this
theorem Y12w {i v : Nat} (hi : i < l.length) (hl : l.length ≤ 400) : zden L (d + 1) 58 [.ref 74, .int (nI i), .int (nI v)] (putM z (va_up R 12 l, f)) = some (0, putM z (va_up R 12 (l.set i v), f)) := by
  have := X12w (L := L) (d := d) (z := z) (M := (va_up R 12 l, f)) (i := i) (v := v) (by simp only [vs]; exact hi) (by simp only [vs]; exact hl)
  simp only [vs, vv] at this
  exact this
theorem Y12h {i b : Nat} (hi : i < 2 ^ 31) (hl : l.length ≤ 400) (hb : b < 31) : zden L (d + 1) 60 [.ref 74, .int (nI i), .int (nI b)] (putM z (va_up R 12 l, f)) = some (bI ((l.getD i 0).testBit b), putM z (va_up R 12 l, f)) := by
  have := X12h (L := L) (d := d) (z := z) (M := (va_up R 12 l, f)) (i := i) (b := b) hi (by simp only [vs]; exact hl) hb
  simp only [vs] at this
  exact this
theorem Y12a (v : Nat) (hl : l.length < 400) : zden L (d + 2) 61 [.ref 74, .int (nI v)] (putM z (va_up R 12 l, f)) = some (0, putM z (va_up R 12 (l ++ [v]), f)) := by
  have := X12a (L := L) (d := d) (z := z) (M := (va_up R 12 l, f)) v (by simp only [vs]; exact hl)
  simp only [vs, vv] at this
  exact this
theorem Y12s : zden L (d + 1) 55 [.ref 74] (putM z (va_up R 12 l, f)) = some (nI l.length, putM z (va_up R 12 l, f)) := by
  have := X12s (L := L) (d := d) (z := z) (M := (va_up R 12 l, f))
  simp only [vs] at this
  exact this
theorem Y13g (i : Int32) : zden L (d + 1) 56 [.ref 76, .int i] (putM z (va_up R 13 l, f)) = some (zget (l.map nI) i, putM z (va_up R 13 l, f)) := by
  have := X13g (L := L) (d := d) (z := z) (M := (va_up R 13 l, f)) i
  simp only [vs] at this
  exact this
theorem Y13w {i v : Nat} (hi : i < l.length) (hl : l.length ≤ 400) : zden L (d + 1) 58 [.ref 76, .int (nI i), .int (nI v)] (putM z (va_up R 13 l, f)) = some (0, putM z (va_up R 13 (l.set i v), f)) := by
  have := X13w (L := L) (d := d) (z := z) (M := (va_up R 13 l, f)) (i := i) (v := v) (by simp only [vs]; exact hi) (by simp only [vs]; exact hl)
  simp only [vs, vv] at this
  exact this
theorem Y13h {i b : Nat} (hi : i < 2 ^ 31) (hl : l.length ≤ 400) (hb : b < 31) : zden L (d + 1) 60 [.ref 76, .int (nI i), .int (nI b)] (putM z (va_up R 13 l, f)) = some (bI ((l.getD i 0).testBit b), putM z (va_up R 13 l, f)) := by
  have := X13h (L := L) (d := d) (z := z) (M := (va_up R 13 l, f)) (i := i) (b := b) hi (by simp only [vs]; exact hl) hb
  simp only [vs] at this
  exact this
theorem Y13a (v : Nat) (hl : l.length < 400) : zden L (d + 2) 61 [.ref 76, .int (nI v)] (putM z (va_up R 13 l, f)) = some (0, putM z (va_up R 13 (l ++ [v]), f)) := by
  have := X13a (L := L) (d := d) (z := z) (M := (va_up R 13 l, f)) v (by simp only [vs]; exact hl)
  simp only [vs, vv] at this
  exact this
theorem Y13s : zden L (d + 1) 55 [.ref 76] (putM z (va_up R 13 l, f)) = some (nI l.length, putM z (va_up R 13 l, f)) := by
  have := X13s (L := L) (d := d) (z := z) (M := (va_up R 13 l, f))
  simp only [vs] at this
  exact this
end
