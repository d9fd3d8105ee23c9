/-! EVALUATION: marks, in the reference -/
/-- with no room the words of a way follow each other -/
theorem ear_row {T Q : CT} {l lk w : Nat} (hm : ∀ w, w + 1 < (T.1 1).length → plT T w + 1 ≤ plT T (w + 1)) (hlk : lk ≤ (T.1 1).length) (hw : w < lk) (h0 : (Q.1 6).getD l 0 = 0) (h1 : 1 ≤ (Q.1 5).getD l 0) (hs : (eaF T Q l lk w ((Q.1 5).getD l 0 - 1)).isSome = true) : ∀ i, i < (Q.1 5).getD l 0 → eaF T Q l lk w i = some (w + i) := by
  have la := leF_lt (T := T) (Q := Q) (l := l) hw
  -- distances to the last
  have gap : ∀ (r i x : Nat), i + r = (Q.1 5).getD l 0 - 1 → eaF T Q l lk w i = some x → ∃ y, eaF T Q l lk w ((Q.1 5).getD l 0 - 1) = some y ∧ x + r ≤ y := by
    intro r
    induction r with
    | zero => intro i x hi hx; rw [show (Q.1 5).getD l 0 - 1 = i by omega]; exact ⟨x, hx, by omega⟩
    | succ r ih =>
      intro i x hi hx
      have hs1 := ear_pre (i := i + 1) (show i + 1 ≤ (Q.1 5).getD l 0 - 1 by omega) hs
      obtain ⟨v, x', e1, e2, e3, e4, e5, e6⟩ := ear_at hs1
      have hx' : ear (fitL T Q l) (leF T Q l lk w) w i = some x := hx
      rw [hx'] at e1
      cases e1
      obtain ⟨y, f1, f2⟩ := ih (i + 1) x' (by omega) e2
      exact ⟨y, f1, by omega⟩
  intro i hi
  have hsi := ear_pre (i := i) (show i ≤ (Q.1 5).getD l 0 - 1 by omega) hs
  cases hx : eaF T Q l lk w i with
  | none =>
    have hx' : ear (fitL T Q l) (leF T Q l lk w) w i = none := hx
    rw [hx'] at hsi; cases hsi
  | some x =>
    have g1 := (ear_ge (show ear (fitL T Q l) (leF T Q l lk w) w i = some x from hx)).1
    obtain ⟨y, f1, f2⟩ := gap ((Q.1 5).getD l 0 - 1 - i) i x (by omega) hx
    have g2 := ear_ge (show ear (fitL T Q l) (leF T Q l lk w) w ((Q.1 5).getD l 0 - 1) = some y from f1)
    have yl : y ≤ leF T Q l lk w := by
      by_cases c : 1 ≤ (Q.1 5).getD l 0 - 1
      · exact g2.2 c
      · rw [show (Q.1 5).getD l 0 - 1 = 0 by omega] at f1
        cases f1
        exact la.1
    have py := (leF_iff (Q := Q) (l := l) hm hlk (show w ≤ y by omega) (by omega)).mp yl
    have mo := pl_mono hm (w := w) (y - w) (by omega)
    rw [show w + (y - w) = y by omega] at mo
    rw [h0] at py
    congr 1
    omega
/-- marks and joints of the reference -/
def jmA (T Q : CT) (l lk u v : Nat) : Bool := (List.range u).any (fun w => way T Q l lk w && (decide ((Q.1 6).getD l 0 = 0) && (decide (w < v) && decide (v < w + (Q.1 5).getD l 0))))
theorem jmA_succ (T Q : CT) (l lk w v : Nat) : jmA T Q l lk (w + 1) v = (jmA T Q l lk w v || (way T Q l lk w && (decide ((Q.1 6).getD l 0 = 0) && (decide (w < v) && decide (v < w + (Q.1 5).getD l 0))))) := any_succ _ _
def mkM (T Q : CT) (li : Nat → Bool) (lk n v : Nat) : Bool := (List.range n).any (fun l => li l && inA T Q l lk lk v)
def jdM (T Q : CT) (li : Nat → Bool) (lk n v : Nat) : Bool := (List.range n).any (fun l => li l && jmA T Q l lk lk v)
theorem jmA_eq (T Q : CT) (l lk u v : Nat) : jmA T Q l lk u v = (decide (v ≠ 0) && joA T Q l lk u (v - 1)) := by
  unfold jmA joA
  by_cases v0 : v = 0
  · subst v0
    simp
  · rw [decide_eq_true v0, Bool.true_and]
    congr 1
    funext w
    congr 1
    rw [← Bool.decide_and, ← Bool.decide_and, ← Bool.decide_and]
    refine decide_eq_decide.mpr ?_
    unfold jnL
    split <;> omega
theorem jdM_eq (T Q : CT) (li : Nat → Bool) (lk n v : Nat) : jdM T Q li lk n v = (decide (v ≠ 0) && jdA T Q li lk n (v - 1)) := by
  unfold jdM jdA
  induction n with
  | zero => simp
  | succ n ih =>
    rw [any_succ, any_succ, ih, jmA_eq]
    cases decide (v ≠ 0) <;> cases li n <;> simp
theorem inA_lt {T Q : CT} {l lk u v : Nat} (hu : u ≤ lk) (h : inA T Q l lk u v = true) : v < lk := by
  obtain ⟨w, hw, h⟩ := List.any_eq_true.mp h
  have hw := List.mem_range.mp hw
  simp only [Bool.and_eq_true] at h
  obtain ⟨h1, h2⟩ := h
  rw [inW_eq] at h2
  have la := leF_lt (T := T) (Q := Q) (l := l) (show w < lk by omega)
  simp only [Bool.or_eq_true, decide_eq_true_eq] at h2
  rcases h2 with h2 | h2
  · omega
  · obtain ⟨i, hi, h2⟩ := List.any_eq_true.mp h2
    have hi := List.mem_range.mp hi
    unfold stF at h2
    simp only [Bool.and_eq_true, decide_eq_true_eq] at h2
    have hs : (ear (fitL T Q l) (leF T Q l lk w) w ((Q.1 5).getD l 0 - 1)).isSome = true := by
      have : (fitL T Q l w 0 && (ear (fitL T Q l) (leF T Q l lk w) w ((Q.1 5).getD l 0 - 1)).isSome) = true := h1
      simp only [Bool.and_eq_true] at this
      exact this.2
    obtain ⟨y, y1, y2, y3, y4⟩ := lat_ge hs ((Q.1 5).getD l 0 - (i + 1)) (by omega) (by omega)
    have y3 : laF T Q l lk w ((Q.1 5).getD l 0 - (i + 1)) ≤ leF T Q l lk w := y3
    omega
theorem mkM_eq (T Q : CT) (li : Nat → Bool) (lk n v : Nat) : mkM T Q li lk n v = mkA T Q li lk n v := by
  unfold mkA
  by_cases c : v < lk
  · rw [decide_eq_true c, Bool.true_and]; rfl
  · rw [decide_eq_false c, Bool.false_and]
    unfold mkM
    rw [List.any_eq_false]
    intro l _ q
    simp only [Bool.and_eq_true] at q
    exact c (inA_lt (Nat.le_refl _) q.2)
section
variable {L d : Nat} {z : zS} {T Q : CT} {lk n : Nat} {f : Nat → Int32}
theorem set_bNv {n p : Nat} {f g : Nat → Bool} (b : Bool) (h : ∀ k, k < n → k ≠ p → f k = g k) (hp : g p = b) : ((List.range n).map (fun k => bN (f k))).set p (bN b) = (List.range n).map (fun k => bN (g k)) := by
  have := map_set (n := n) (p := p) (f := fun k => bN (f k)) (g := fun k => bN (g k)) (fun k h1 h2 => by show bN _ = bN _; rw [h k h1 h2])
  rw [hp] at this
  exact this
/-- the words of one way are marked -/
theorem m142_way {l w : Nat} {J : Nat → Nat → Int32} {Al : Nat → List Nat} {m j : Nat → Bool} (hX : MX T Q lk n f Al) (hl : l < (Q.1 6).length) (hw : w < lk) (hy : way T Q l lk w = true) (h186 : (Al 186).length = (Q.1 5).getD l 0) (h187 : (Al 187).length = 6) (hE : ∀ i, i < (Q.1 5).getD l 0 → (Al 186).getD i 0 = (eaF T Q l lk w i).getD 0) (hL0 : (Al 187).getD 0 0 = w) (hL : ∀ i, 1 ≤ i → i < (Q.1 5).getD l 0 → (Al 187).getD i 0 = laF T Q l lk w ((Q.1 5).getD l 0 - i)) (h168 : Al 168 = (List.range 300).map (fun v => bN (m v))) (h169 : Al 169 = (List.range 300).map (fun v => bN (j v))) (v5 : Value) :
    ∃ x4 v5', xruns (O2 L) (zden L (d + 4)) 142 89 [.ref 136, .int (nI l), .int (nI w), .int (bI true), .int (nI 0), v5] [] (ms z f J Al) = xruns (O2 L) (zden L (d + 4)) 142 204 [.ref 136, .int (nI l), .int (nI w), .int (bI true), .int x4, v5'] [] (ms z f J (va_up (va_up Al 168 ((List.range 300).map (fun v => bN (m v || inW T Q l lk w v)))) 169 ((List.range 300).map (fun v => bN (j v || (decide ((Q.1 6).getD l 0 = 0) && (decide (w < v) && decide (v < w + (Q.1 5).getD l 0)))))))) := by
  have hX' := hX
  obtain ⟨hx, hq, h36, n300, hlk, tl, ql, tw, qf, n12, hm, hp⟩ := hX'
  obtain ⟨f1, f2, f3, f4, f5, f6, f7, f8, f9, f10⟩ := qf l hl
  obtain ⟨g21, g152, g153, g154, g155, g156, g157, g158⟩ := hq
  have W300 := hx.2.1
  have la := leF_lt (T := T) (Q := Q) (l := l) hw
  have hfit : fitL T Q l w 0 = true ∧ (eaF T Q l lk w ((Q.1 5).getD l 0 - 1)).isSome = true := by
    have : (fitL T Q l w 0 && (ear (fitL T Q l) (leF T Q l lk w) w ((Q.1 5).getD l 0 - 1)).isSome) = true := hy
    simp only [Bool.and_eq_true] at this
    exact this
  have hs := hfit.2
  have q1 := ql.2.1
  have qe0 := (f7 0 (by omega)).1
  -- what stands for term i
  have bnd : ∀ i, i < (Q.1 5).getD l 0 → ∃ a b, (Al 186).getD i 0 = a ∧ (Al 187).getD i 0 = b ∧ a ≤ b ∧ b < lk ∧ w ≤ a := by
    intro i hi
    by_cases i0 : i = 0
    · subst i0
      exact ⟨w, w, by rw [hE 0 hi]; rfl, hL0, Nat.le_refl _, hw, Nat.le_refl _⟩
    · obtain ⟨y, y1, y2, y3, y4⟩ := lat_ge (fit := fitL T Q l) (last := leF T Q l lk w) (w := w) (n := (Q.1 5).getD l 0) hs ((Q.1 5).getD l 0 - i) (by omega) (by omega)
      rw [show (Q.1 5).getD l 0 - ((Q.1 5).getD l 0 - i) = i by omega] at y1
      have gy := (ear_ge y1).1
      have y1 : eaF T Q l lk w i = some y := y1
      have y2 : y ≤ laF T Q l lk w ((Q.1 5).getD l 0 - i) := y2
      have y3 : laF T Q l lk w ((Q.1 5).getD l 0 - i) ≤ leF T Q l lk w := y3
      exact ⟨y, _, by rw [hE i hi, y1]; rfl, hL i (by omega) hi, y2, by omega, by omega⟩
  have frX : ∀ A B : List Nat, MX T Q lk n f (va_up (va_up Al 168 A) 169 B) := fun A B => hX.fr (J := J) (J' := J) ((FrM.a (by simp)).trans (FrM.a (by simp)))
  have inner : ∀ (r x i a b : Nat) (g : Nat → Bool) (B : List Nat), i < (Q.1 5).getD l 0 → (Al 187).getD i 0 = b → b < lk → x + r = b + 1 → a ≤ x → (∀ v, g v = (g v || (decide (a ≤ v) && decide (v < x) && fitL T Q l v i))) → ∃ x5, xruns (O2 L) (zden L (d + 4)) 142 113 [.ref 136, .int (nI l), .int (nI w), .int (bI true), .int (nI i), .int (nI x)] [] (ms z f J (va_up (va_up Al 168 ((List.range 300).map (fun v => bN (g v)))) 169 B)) = xruns (O2 L) (zden L (d + 4)) 142 171 [.ref 136, .int (nI l), .int (nI w), .int (bI true), .int (nI i), .int x5] [] (ms z f J (va_up (va_up Al 168 ((List.range 300).map (fun v => bN (g v || (decide (a ≤ v) && decide (v ≤ b) && fitL T Q l v i))))) 169 B)) := by
    intro r
    induction r with
    | zero =>
      intro x i a b g B hi hb hbl hx' hax hg
      refine ⟨nI x, ?_⟩
      have same : (List.range 300).map (fun v => bN (g v)) = (List.range 300).map (fun v => bN (g v || (decide (a ≤ v) && decide (v ≤ b) && fitL T Q l v i))) := List.map_congr_left (fun v _ => by
        have e : decide (v < x) = decide (v ≤ b) := decide_eq_decide.mpr (by omega)
        rw [← e, ← hg v])
      rw [B142_113, J136_71, Option.bind_some, L187 (by rw [vn _ _ (by omega), vn _ _ (by omega)]; omega) (by omega), Option.bind_some, vn _ _ (by omega), vn _ _ (by omega), hb, iT (by omega) (by omega), if_pos (by omega), ← same]
    | succ r ih =>
      intro x i a b g B hi hb hbl hx' hax hg
      have e159 : ∀ c : Bool, c = (g x || fitL T Q l x i) → ∃ x5, xruns (O2 L) (zden L (d + 4)) 142 164 [.ref 136, .int (nI l), .int (nI w), .int (bI true), .int (nI i), .int (nI x)] [.int (nI (bN c)), .int (nI x), .ref 168] (ms z f J (va_up (va_up Al 168 ((List.range 300).map (fun v => bN (g v)))) 169 B)) = xruns (O2 L) (zden L (d + 4)) 142 171 [.ref 136, .int (nI l), .int (nI w), .int (bI true), .int (nI i), .int x5] [] (ms z f J (va_up (va_up Al 168 ((List.range 300).map (fun v => bN (g v || (decide (a ≤ v) && decide (v ≤ b) && fitL T Q l v i))))) 169 B)) := by
        intro c hc
        have b01 : nI (bN c) = nI 0 ∨ nI (bN c) = nI 1 := by cases c; exact Or.inl rfl; exact Or.inr rfl
        have set := set_bNv (n := 300) (p := x) (f := g) (g := fun v => g v || (decide (v = x) && fitL T Q l v i)) c (fun k _ hne => by simp [hne]) (by simp [hc])
        obtain ⟨x5, e⟩ := ih (x + 1) i a b (fun v => g v || (decide (v = x) && fitL T Q l v i)) B hi hb hbl (by omega) (by omega) (fun v => by
          show (g v || _) = ((g v || _) || _)
          have e2 := hg v
          by_cases c : v = x
          · subst c
            cases g v <;> cases fitL T Q l v i <;> simp
          · have : decide (v < x + 1) = decide (v < x) := decide_eq_decide.mpr (by omega)
            rw [this, decide_eq_false c, Bool.false_and, Bool.or_false]
            exact e2)
        refine ⟨x5, ?_⟩
        rw [B142_164, if_pos b01, up_comm _ (show (168 : Nat) ≠ 169 by omega), U168 _ (by rw [vs, List.length_map, List.length_range]; omega) (by omega), Option.bind_some, vs, vv, set, up_comm _ (show (169 : Nat) ≠ 168 by omega), nI_add, e]
        have same : (List.range 300).map (fun v => bN ((g v || (decide (v = x) && fitL T Q l v i)) || (decide (a ≤ v) && decide (v ≤ b) && fitL T Q l v i))) = (List.range 300).map (fun v => bN (g v || (decide (a ≤ v) && decide (v ≤ b) && fitL T Q l v i))) := List.map_congr_left (fun v _ => by
          congr 1
          by_cases c : v = x
          · subst c
            rw [decide_eq_true rfl, decide_eq_true hax, decide_eq_true (show v ≤ b by omega)]
            cases g v <;> cases fitL T Q l v i <;> rfl
          · rw [decide_eq_false c, Bool.false_and, Bool.or_false])
        rw [same]
      have ld : (O2 L).2.2.2.2.2.1 (ms z f J (va_up (va_up Al 168 ((List.range 300).map (fun v => bN (g v)))) 169 B)) 1 168 (nI x) = some (nI (bN (g x))) := by
        rw [L168 (by rw [vn _ _ (by omega), vs, List.length_map, List.length_range]; omega) (by omega), vn _ _ (by omega), vs, map_at (by omega)]
      have bg := bN_le (g x)
      rw [B142_113, J136_71, Option.bind_some, L187 (by rw [vn _ _ (by omega), vn _ _ (by omega)]; omega) (by omega), Option.bind_some, vn _ _ (by omega), vn _ _ (by omega), hb, iT (by omega) (by omega), if_neg (by omega), B142_125, J136_41, Option.bind_some, Option.bind_some, ld, Option.bind_some, iE (by omega) (by omega)]
      by_cases c : bN (g x) = 0
      · have c' := (bN_0 _).mp c
        have e139 := m139x (L := L) (d := d + 1) (z := z) (J := J) (frX ((List.range 300).map (fun v => bN (g v))) B) hl (v := x) (i := i) (by omega) hi
        rw [if_pos c, B142_141, J136_22, Option.bind_some, L152 (by rw [vn _ _ (by omega), vn _ _ (by omega), g152]; exact f1) (by omega), Option.bind_some, vn _ _ (by omega), vn _ _ (by omega), g152, nI_add, e139, Option.bind_some, iB]
        by_cases c2 : fitL T Q l x i = true
        · rw [if_pos c2, B142_159]
          exact e159 true (by rw [c2, Bool.or_true])
        · rw [if_neg c2, B142_163]
          exact e159 false (by rw [c', show fitL T Q l x i = false by simpa using c2]; rfl)
      · rw [if_neg c, B142_159]
        exact e159 true (by rw [(bN_1 (g x)).mp (by omega), Bool.true_or])
  -- the terms
  have P0 : ∀ v, (decide (w ≤ v) && decide (v ≤ w) && fitL T Q l v 0) = decide (v = w) := by
    intro v
    by_cases c : v = w
    · subst c; simp [hfit.1]
    · have : ¬ (w ≤ v ∧ v ≤ w) := by omega
      rw [decide_eq_false c, ← Bool.decide_and, decide_eq_false this, Bool.false_and]
  have outer : ∀ (r i : Nat) (v5 : Value), i + r = (Q.1 5).getD l 0 → ∃ x4 v5', xruns (O2 L) (zden L (d + 4)) 142 89 [.ref 136, .int (nI l), .int (nI w), .int (bI true), .int (nI i), v5] [] (ms z f J (va_up (va_up Al 168 ((List.range 300).map (fun v => bN (m v || (decide (0 < i) && decide (v = w)) || (List.range (i - 1)).any (fun k => stF T Q l lk w (k + 1) v))))) 169 ((List.range 300).map (fun v => bN (j v || (decide ((Q.1 6).getD l 0 = 0) && (decide (w < v) && decide (v < w + i)))))))) = xruns (O2 L) (zden L (d + 4)) 142 204 [.ref 136, .int (nI l), .int (nI w), .int (bI true), .int x4, v5'] [] (ms z f J (va_up (va_up Al 168 ((List.range 300).map (fun v => bN (m v || inW T Q l lk w v)))) 169 ((List.range 300).map (fun v => bN (j v || (decide ((Q.1 6).getD l 0 = 0) && (decide (w < v) && decide (v < w + (Q.1 5).getD l 0)))))))) := by
    intro r
    induction r with
    | zero =>
      intro i v5 hi
      have : i = (Q.1 5).getD l 0 := by omega
      subst this
      refine ⟨nI ((Q.1 5).getD l 0), v5, ?_⟩
      have same : (List.range 300).map (fun v => bN (m v || (decide (0 < (Q.1 5).getD l 0) && decide (v = w)) || (List.range ((Q.1 5).getD l 0 - 1)).any (fun k => stF T Q l lk w (k + 1) v))) = (List.range 300).map (fun v => bN (m v || inW T Q l lk w v)) := List.map_congr_left (fun v _ => by
        rw [inW_eq, decide_eq_true (show 0 < (Q.1 5).getD l 0 by omega), Bool.true_and, Bool.or_assoc])
      rw [B142_89, J136_23, Option.bind_some, L153 (by rw [vn _ _ (by omega), vn _ _ (by omega), g153]; exact f2) (by omega), Option.bind_some, vn _ _ (by omega), vn _ _ (by omega), g153, iL (by omega) (by omega), if_pos (Nat.le_refl _), same]
    | succ r ih =>
      intro i v5 hi
      have il : i < (Q.1 5).getD l 0 := by omega
      obtain ⟨a, b, ea, eb, ab, bl, wa⟩ := bnd i il
      obtain ⟨x5, ev⟩ := inner (b + 1 - a) a i a b (fun v => m v || (decide (0 < i) && decide (v = w)) || (List.range (i - 1)).any (fun k => stF T Q l lk w (k + 1) v)) ((List.range 300).map (fun v => bN (j v || (decide ((Q.1 6).getD l 0 = 0) && (decide (w < v) && decide (v < w + i)))))) il eb bl (by omega) (Nat.le_refl _) (fun v => by
        have : (decide (a ≤ v) && decide (v < a)) = false := by
          rw [← Bool.decide_and, decide_eq_false (by omega)]
        rw [this, Bool.false_and, Bool.or_false])
      -- marks of the next
      have same : (List.range 300).map (fun v => bN ((m v || (decide (0 < i) && decide (v = w)) || (List.range (i - 1)).any (fun k => stF T Q l lk w (k + 1) v)) || (decide (a ≤ v) && decide (v ≤ b) && fitL T Q l v i))) = (List.range 300).map (fun v => bN (m v || (decide (0 < i + 1) && decide (v = w)) || (List.range (i + 1 - 1)).any (fun k => stF T Q l lk w (k + 1) v))) := List.map_congr_left (fun v _ => by
        congr 1
        rw [decide_eq_true (show 0 < i + 1 by omega), Bool.true_and, Nat.add_sub_cancel]
        by_cases i0 : i = 0
        · subst i0
          have ea : (Al 186).getD 0 0 = w := by rw [hE 0 il]; rfl
          have aw : a = w := by omega
          have bw : b = w := by omega
          rw [aw, bw, P0 v]
          simp
        · have st : (decide (a ≤ v) && decide (v ≤ b) && fitL T Q l v i) = stF T Q l lk w i v := by
            unfold stF
            rw [← hE i il, ea, ← hL i (by omega) il, eb]
          have e2 : (List.range i).any (fun k => stF T Q l lk w (k + 1) v) = ((List.range (i - 1)).any (fun k => stF T Q l lk w (k + 1) v) || stF T Q l lk w i v) := by
            conv => lhs; rw [show i = i - 1 + 1 by omega]
            rw [any_succ, show i - 1 + 1 = i by omega]
          rw [st, e2, decide_eq_true (show 0 < i by omega), Bool.true_and, Bool.or_assoc])
      rw [same] at ev
      -- to 198
      have e198 : ∀ (B : List Nat), B = (List.range 300).map (fun v => bN (j v || (decide ((Q.1 6).getD l 0 = 0) && (decide (w < v) && decide (v < w + (i + 1)))))) → ∃ x4 v5', xruns (O2 L) (zden L (d + 4)) 142 198 [.ref 136, .int (nI l), .int (nI w), .int (bI true), .int (nI i), .int x5] [] (ms z f J (va_up (va_up Al 168 ((List.range 300).map (fun v => bN (m v || (decide (0 < i + 1) && decide (v = w)) || (List.range (i + 1 - 1)).any (fun k => stF T Q l lk w (k + 1) v))))) 169 B)) = xruns (O2 L) (zden L (d + 4)) 142 204 [.ref 136, .int (nI l), .int (nI w), .int (bI true), .int x4, v5'] [] (ms z f J (va_up (va_up Al 168 ((List.range 300).map (fun v => bN (m v || inW T Q l lk w v)))) 169 ((List.range 300).map (fun v => bN (j v || (decide ((Q.1 6).getD l 0 = 0) && (decide (w < v) && decide (v < w + (Q.1 5).getD l 0)))))))) := by
        intro B hB
        rw [hB, B142_198, nI_add]
        exact ih (i + 1) _ (by omega)
      have e104 : xruns (O2 L) (zden L (d + 4)) 142 89 [.ref 136, .int (nI l), .int (nI w), .int (bI true), .int (nI i), v5] [] (ms z f J (va_up (va_up Al 168 ((List.range 300).map (fun v => bN (m v || (decide (0 < i) && decide (v = w)) || (List.range (i - 1)).any (fun k => stF T Q l lk w (k + 1) v))))) 169 ((List.range 300).map (fun v => bN (j v || (decide ((Q.1 6).getD l 0 = 0) && (decide (w < v) && decide (v < w + i)))))))) = xruns (O2 L) (zden L (d + 4)) 142 113 [.ref 136, .int (nI l), .int (nI w), .int (bI true), .int (nI i), .int (nI a)] [] (ms z f J (va_up (va_up Al 168 ((List.range 300).map (fun v => bN (m v || (decide (0 < i) && decide (v = w)) || (List.range (i - 1)).any (fun k => stF T Q l lk w (k + 1) v))))) 169 ((List.range 300).map (fun v => bN (j v || (decide ((Q.1 6).getD l 0 = 0) && (decide (w < v) && decide (v < w + i)))))))) := by
        rw [B142_89, J136_23, Option.bind_some, L153 (by rw [vn _ _ (by omega), vn _ _ (by omega), g153]; exact f2) (by omega), Option.bind_some, vn _ _ (by omega), vn _ _ (by omega), g153, iL (by omega) (by omega), if_neg (by omega), B142_100, iB, if_pos rfl, B142_104, J136_70, Option.bind_some, L186 (by rw [vn _ _ (by omega), vn _ _ (by omega)]; omega) (by omega), Option.bind_some, vn _ _ (by omega), vn _ _ (by omega), ea]
      rw [e104, ev, B142_171, iL (by omega) (by omega)]
      by_cases i0 : i = 0
      · rw [if_pos (by omega)]
        refine e198 _ (List.map_congr_left (fun v _ => ?_))
        congr 3
        rw [← Bool.decide_and, ← Bool.decide_and]
        exact decide_eq_decide.mpr (by omega)
      · rw [if_neg (by omega), B142_176, J136_24, Option.bind_some, L154 (by rw [vn _ _ (by omega), vn _ _ (by omega), g154]; exact f3) (by omega), Option.bind_some, vn _ _ (by omega), vn _ _ (by omega), g154, iE (by omega) (by omega)]
        by_cases c0 : (Q.1 6).getD l 0 = 0
        · have er := ear_row hm (by omega) hw c0 f4 hs i il
          have ai : a = w + i := by rw [← ea, hE i il, er]; rfl
          rw [if_pos c0, B142_185, J136_42, Option.bind_some, J136_70, Option.bind_some, L186 (by rw [vn _ _ (by omega), vn _ _ (by omega)]; omega) (by omega), Option.bind_some, vn _ _ (by omega), vn _ _ (by omega), ea, iO1, U169 1 (by rw [vs, List.length_map, List.length_range]; omega) (by omega), Option.bind_some, vs, vv]
          refine e198 _ ?_
          refine set_bN (fun k _ hne => ?_) (fun _ => ?_)
          · congr 2
            rw [← Bool.decide_and, ← Bool.decide_and]
            exact decide_eq_decide.mpr (by omega)
          · rw [decide_eq_true c0, decide_eq_true (show w < a by omega), decide_eq_true (show a < w + (i + 1) by omega)]
            simp
        · rw [if_neg c0]
          refine e198 _ (List.map_congr_left (fun v _ => ?_))
          rw [decide_eq_false c0, Bool.false_and, Bool.false_and]
  obtain ⟨x4, v5', ev⟩ := outer ((Q.1 5).getD l 0) 0 v5 (by omega)
  refine ⟨x4, v5', ?_⟩
  have s168 : (List.range 300).map (fun v => bN (m v || (decide (0 < 0) && decide (v = w)) || (List.range (0 - 1)).any (fun k => stF T Q l lk w (k + 1) v))) = Al 168 := by
    rw [h168]
    exact List.map_congr_left (fun v _ => by simp)
  have s169 : (List.range 300).map (fun v => bN (j v || (decide ((Q.1 6).getD l 0 = 0) && (decide (w < v) && decide (v < w + 0))))) = Al 169 := by
    rw [h169]
    exact List.map_congr_left (fun v _ => by
      have : (decide (w < v) && decide (v < w + 0)) = false := by
        rw [← Bool.decide_and, decide_eq_false (by omega)]
      rw [this, Bool.and_false, Bool.or_false])
  rw [s168, s169, vi, vi] at ev
  exact ev
end
