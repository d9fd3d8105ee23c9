/-! PRINT: the reference, say, openBefore, placeOf -/
def Rl (R : Nat → List Nat) (l o : List Nat) : Nat → List Nat := va_up (va_up R 189 l) 172 o
def MO (z : zS) (F : Nat → Int32) (J : Nat → Nat → Int32) (R : Nat → List Nat) (l o : List Nat) : zS := ms z (va_up F 47 (nI o.length)) J (Rl R l o)
theorem Rl_o {R : Nat → List Nat} {l o : List Nat} {a : Nat} (h1 : a ≠ 189) (h2 : a ≠ 172) : Rl R l o a = R a := by
  unfold Rl
  rw [vn _ _ h2, vn _ _ h1]
theorem Rl_189 {R : Nat → List Nat} {l o : List Nat} : Rl R l o 189 = l := by
  unfold Rl
  rw [vn _ _ (by omega), vs]
theorem Rl_172 {R : Nat → List Nat} {l o : List Nat} : Rl R l o 172 = o := vs _ _ _
theorem Rl_u189 {R : Nat → List Nat} {l o l' : List Nat} : va_up (Rl R l o) 189 l' = Rl R l' o := by
  unfold Rl
  rw [up_comm _ (show (172 : Nat) ≠ 189 by omega), vv]
def PX (bs : List Nat) (Q : CT) (S : Option Sem) (lim : Nat) (F : Nat → Int32) (R : Nat → List Nat) (T' : CT) : Prop := (GX bs Q S lim F R) ∧ (PI bs bs.length T' (kread bs))
theorem PX.gx {bs : List Nat} {Q : CT} {S : Option Sem} {lim : Nat} {F : Nat → Int32} {R : Nat → List Nat} (T' : CT) (h : PX bs Q S lim F R T') : GX bs Q S lim F R := h.1
theorem PX.pi {bs : List Nat} {Q : CT} {S : Option Sem} {lim : Nat} {F : Nat → Int32} {R : Nat → List Nat} (T' : CT) (h : PX bs Q S lim F R T') : PI bs bs.length T' (kread bs) := h.2
section
variable {L d : Nat} {z : zS} {bs : List Nat} {Q : CT} {S : Option Sem} {lim : Nat} {F : Nat → Int32} {J : Nat → Nat → Int32} {R : Nat → List Nat} {l o : List Nat} {T' : CT}
theorem PX.g' (px : PX bs Q S lim F R T') (l o : List Nat) : GX bs Q S lim (va_up F 47 (nI o.length)) (Rl R l o) := px.gx.fr (fun k hk => vn _ _ (by simp at hk; omega)) (fun a a1 a2 => Rl_o (by omega) (by omega))
theorem m157 {v : Nat} (h : o.length < 6000) : zden L (d + 1) 157 [.ref 136, .int (nI v)] (MO z F J R l o) = some (0, MO z F J R l (o ++ [v])) := by
  unfold MO
  rw [N157 _ _ ob136, B157_0, J136_46, Option.bind_some, M47r, Option.bind_some, vs, A172 _ (by rw [Rl_172]) h, Option.bind_some, M47r, Option.bind_some, vs, M47p, Option.bind_some, nI_add, vv, Rl_172]
  unfold Rl
  rw [vv, List.length_append]
  rfl
theorem qB (px : PX bs Q S lim F R T') {i : Nat} (hi : i < bs.length) : (O2 L).2.2.2.2.2.1 (MO z F J R l o) 0 138 (nI i) = some (nI (bs.getD i 0)) := by
  have e : Rl R l o 138 = bs := by rw [Rl_o (by omega) (by omega)]; exact px.gx.mt.2.2.2.2.1
  have len := (txr px.gx.bb px.gx.rd).len
  unfold MO
  rw [L138 (by rw [e]; exact hi) (by omega), e]
theorem qK (px : PX bs Q S lim F R T') {a : Nat} (h1 : 139 ≤ a) (h2 : a ≤ 146) : Rl R l o a = kread bs a := by
  rw [Rl_o (by omega) (by omega)]
  exact px.gx.mt.1 a h1 h2
theorem rAt (px : PX bs Q S lim F R T') {s : Nat} (hs : s < (kread bs 139).length) : (O2 L).2.2.2.2.2.1 (MO z F J R l o) 0 140 (nI s) = some (nI (atK (kread bs) s)) := by
  have tx := txr px.gx.bb px.gx.rd
  have len := tx.len
  have k139 := tx.k139
  unfold MO
  rw [L140 (by rw [qK px (by omega) (by omega), tx.k140]; exact hs) (by omega), qK px (by omega) (by omega)]
  rfl
theorem rEn (px : PX bs Q S lim F R T') {s : Nat} (hs : s < (kread bs 139).length) : (O2 L).2.2.2.2.2.1 (MO z F J R l o) 0 141 (nI s) = some (nI (enK (kread bs) s)) := by
  have tx := txr px.gx.bb px.gx.rd
  have len := tx.len
  have k139 := tx.k139
  unfold MO
  rw [L141 (by rw [qK px (by omega) (by omega), tx.k141]; exact hs) (by omega), qK px (by omega) (by omega)]
  rfl
theorem rTg (px : PX bs Q S lim F R T') {s : Nat} (hs : s ≤ (kread bs 139).length) : (O2 L).2.2.2.2.2.1 (MO z F J R l o) 1 142 (nI s) = some (nI (tgS (kread bs) s)) := by
  have tx := txr px.gx.bb px.gx.rd
  have len := tx.len
  have k139 := tx.k139
  unfold MO
  rw [L142 (by rw [qK px (by omega) (by omega), tx.k142]; omega) (by omega), qK px (by omega) (by omega)]
  rfl
theorem tgS_le (s : Nat) : tgS (kread bs) s ≤ 1 := by
  unfold tgS
  by_cases c : s < (kread bs 142).length
  · rw [gD c]; exact (kread_bit bs).1 _ (List.getElem_mem c)
  · rw [gDn (by omega)]; omega
theorem q4 (px : PX bs Q S lim F R T') : (O2 L).1 (MO z F J R l o) 136 8 4 = some (nI (kread bs 139).length) := by
  unfold MO
  rw [M4r, vn _ _ (by omega), px.gx.mt.2.2.1]
theorem q14 (px : PX bs Q S lim F R T') : (O2 L).1 (MO z F J R l o) 136 8 14 = some (nI ((cread bs).2.1 1).length) := by
  unfold MO
  rw [M14r, vn _ _ (by omega), px.gx.mt.2.2.2.2.2.1, (txr px.gx.bb px.gx.rd).kF]
/-- which tags are open -/
theorem m158 (px : PX bs Q S lim F R T') {b : Nat} (hb : b ≤ bs.length) (hbd : bdy (kread bs) bs.length b) : ∃ l' c, c ≤ (kread bs 144).length ∧ (ms0 (kread bs) c).map (fun t => (kread bs 144).getD t 0) = stk bs b ∧ (ms0 (kread bs) c).length ≤ l'.length ∧ l'.take (ms0 (kread bs) c).length = ms0 (kread bs) c ∧ zden L (d + 1) 158 [.ref 136, .int (nI b)] (MO z F J R l o) = some (nI (ms0 (kread bs) c).length, MO z F J R l' o) := by
  have tx := txr px.gx.bb px.gx.rd
  have len := tx.len
  have k144 := tx.k144
  have k145 := tx.k145
  have k146 := tx.k146
  obtain ⟨c, c1, c2, c3, c4⟩ := px.pi.mc b hb hbd
  have r10 : ∀ l, (O2 L).1 (MO z F J R l o) 136 8 10 = some (nI (kread bs 144).length) := fun l => by
    unfold MO
    rw [M10r, vn _ _ (by omega), px.gx.mt.2.2.2.1]
  have g145 : ∀ l t, t < (kread bs 144).length → (O2 L).2.2.2.2.2.1 (MO z F J R l o) 0 145 (nI t) = some (nI ((kread bs 145).getD t 0)) := fun l t ht => by
    unfold MO
    rw [L145 (by rw [qK px (by omega) (by omega), k145]; exact ht) (by omega), qK px (by omega) (by omega)]
  have g146 : ∀ l t, t < (kread bs 144).length → (O2 L).2.2.2.2.2.1 (MO z F J R l o) 1 146 (nI t) = some (nI ((kread bs 146).getD t 0)) := fun l t ht => by
    unfold MO
    rw [L146 (by rw [qK px (by omega) (by omega), k146]; exact ht) (by omega), qK px (by omega) (by omega)]
  have e145 : ∀ t, t < (kread bs 144).length → (kread bs 145).getD t 0 ≤ 1000 := fun t ht => by
    have := (px.pi.mt t ht).2.1
    omega
  have b146 : ∀ t, (kread bs 146).getD t 0 ≤ 1 := fun t => by
    by_cases c : t < (kread bs 146).length
    · rw [gD c]; exact (kread_bit bs).2.2 _ (List.getElem_mem c)
    · rw [gDn (by omega)]; omega
  -- the tags that end later
  have rest : ∀ (r t n : Nat) (l : List Nat), c ≤ t → t + r = (kread bs 144).length → xruns (O2 L) (zden L d) 158 4 [.ref 136, .int (nI b), .int (nI n), .int (nI t)] [] (MO z F J R l o) = some (nI n, MO z F J R l o) := by
    intro r
    induction r with
    | zero =>
      intro t n l h1 h2
      rw [B158_4, r10, Option.bind_some, iL (by omega) (by omega), if_pos (by omega), B158_56]
    | succ r ih =>
      intro t n l h1 h2
      have e1 := e145 t (by omega)
      have e2 := c3 t h1 (by omega)
      rw [B158_4, r10, Option.bind_some, iL (by omega) (by omega), if_neg (by omega), B158_12, J136_12, Option.bind_some, g145 _ _ (by omega), Option.bind_some, iL (by omega) (by omega), if_neg (by omega), B158_22, B158_50, nI_add]
      exact ih (t + 1) n l (by omega) (by omega)
  have loop : ∀ (r t : Nat) (l : List Nat), t + r = c → (ms0 (kread bs) t).length ≤ l.length → l.take (ms0 (kread bs) t).length = ms0 (kread bs) t → ∃ l', (ms0 (kread bs) c).length ≤ l'.length ∧ l'.take (ms0 (kread bs) c).length = ms0 (kread bs) c ∧ xruns (O2 L) (zden L d) 158 4 [.ref 136, .int (nI b), .int (nI (ms0 (kread bs) t).length), .int (nI t)] [] (MO z F J R l o) = some (nI (ms0 (kread bs) c).length, MO z F J R l' o) := by
    intro r
    induction r with
    | zero =>
      intro t l ht h1 h2
      have : t = c := by omega
      subst this
      exact ⟨l, h1, h2, rest ((kread bs 144).length - t) t _ l (Nat.le_refl _) (by omega)⟩
    | succ r ih =>
      intro t l ht h1 h2
      have e1 := e145 t (by omega)
      have e2 := c2 t (by omega)
      have mb0 := px.pi.mb t (by omega)
      have mb1 := px.pi.mb (t + 1) (by omega)
      have bt := b146 t
      have em : ms0 (kread bs) (t + 1) = if (kread bs 146).getD t 0 ≠ 0 then (ms0 (kread bs) t).take ((ms0 (kread bs) t).length - 1) else ms0 (kread bs) t ++ [t] := rfl
      by_cases cc : (kread bs 146).getD t 0 = 0
      · rw [if_neg (fun q => q cc)] at em
        have el : (ms0 (kread bs) (t + 1)).length = (ms0 (kread bs) t).length + 1 := by rw [em, List.length_append]; rfl
        by_cases ca : (ms0 (kread bs) t).length < l.length
        · obtain ⟨l', y1, y2, y3⟩ := ih (t + 1) (l.set (ms0 (kread bs) t).length t) (by omega) (by rw [el, List.length_set]; omega) (by
            rw [el, em, List.take_succ, List.take_set_of_le (Nat.le_refl _), h2, List.getElem?_set_self ca]
            rfl)
          refine ⟨l', y1, y2, ?_⟩
          rw [el] at y3
          rw [B158_4, r10, Option.bind_some, iL (by omega) (by omega), if_neg (by omega), B158_12, J136_12, Option.bind_some, g145 _ _ (by omega), Option.bind_some, iL (by omega) (by omega), if_pos (by omega), B158_25, J136_13, Option.bind_some, g146 _ _ (by omega), Option.bind_some, iE (by omega) (by omega), if_pos cc, B158_40, J136_73, Option.bind_some]
          unfold MO at y3 ⊢
          rw [U189 _ (by rw [Rl_189]; exact ca) (by omega), Option.bind_some, Rl_189, Rl_u189, nI_add, B158_50, nI_add]
          exact y3
        · have ce : l.length = (ms0 (kread bs) t).length := by omega
          have tl : l = ms0 (kread bs) t := by rw [← h2, ← ce, List.take_length]
          obtain ⟨l', y1, y2, y3⟩ := ih (t + 1) (l ++ [t]) (by omega) (by rw [el, List.length_append, ce]; exact Nat.le_refl _) (by
            rw [tl, ← em, List.take_length])
          refine ⟨l', y1, y2, ?_⟩
          rw [el] at y3
          rw [B158_4, r10, Option.bind_some, iL (by omega) (by omega), if_neg (by omega), B158_12, J136_12, Option.bind_some, g145 _ _ (by omega), Option.bind_some, iL (by omega) (by omega), if_pos (by omega), B158_25, J136_13, Option.bind_some, g146 _ _ (by omega), Option.bind_some, iE (by omega) (by omega), if_pos cc, B158_40, J136_73, Option.bind_some]
          unfold MO at y3 ⊢
          rw [A189 _ (by rw [Rl_189]; exact ce) (by omega), Option.bind_some, Rl_189, Rl_u189, nI_add, B158_50, nI_add]
          exact y3
      · have ne := px.pi.mn t (by omega) cc
        rw [if_pos cc] at em
        have el : (ms0 (kread bs) (t + 1)).length = (ms0 (kread bs) t).length - 1 := by rw [em, List.length_take]; omega
        obtain ⟨l', y1, y2, y3⟩ := ih (t + 1) l (by omega) (by omega) (by
          rw [el, em, ← h2, List.take_take, List.length_take, Nat.min_eq_left h1, Nat.min_eq_left (by omega)])
        refine ⟨l', y1, y2, ?_⟩
        rw [el] at y3
        rw [B158_4, r10, Option.bind_some, iL (by omega) (by omega), if_neg (by omega), B158_12, J136_12, Option.bind_some, g145 _ _ (by omega), Option.bind_some, iL (by omega) (by omega), if_pos (by omega), B158_25, J136_13, Option.bind_some, g146 _ _ (by omega), Option.bind_some, iE (by omega) (by omega), if_neg cc, B158_34, nI_m1 (by omega), B158_50, nI_add]
        exact y3
  obtain ⟨l', y1, y2, y3⟩ := loop c 0 l (by omega) (Nat.zero_le _) rfl
  refine ⟨l', c, c1, c4, y1, y2, ?_⟩
  rw [N158 _ _ ob136, B158_0]
  exact y3
/-- the places of a state lie in order -/
theorem plcZ (hb : BB bs) (hr : (cread bs).1 = none) (qo : QOK Q S) : PLC ((cread bs).2.1 1).length (pfZ bs Q S lim) (plZ bs Q S lim) := by
  obtain ⟨q1, q2⟩ := places (jdmZ (lim := lim) hb hr qo)
  refine ⟨q1, fun k hk => ?_⟩
  obtain ⟨p1, p2, p3, p4, p5, p6⟩ := q2 k hk
  have p3 : (plZ bs Q S lim).getD k 0 < min lim ((cread bs).2.1 1).length := p3
  exact ⟨p2, by omega, p6⟩
theorem m159 (px : PX bs Q S lim F R T') {s : Nat} (hs : s < (kread bs 139).length) : (∀ k, k < (pfZ bs Q S lim).length → inP (kread bs) (pfZ bs Q S lim) (plZ bs Q S lim) s k → zden L (d + 2) 159 [.ref 136, .int (nI s)] (MO z F J R l o) = some (nI ((pfZ bs Q S lim).getD k 0), MO z F J R l o)) ∧ (own (kread bs) (pfZ bs Q S lim) (plZ bs Q S lim) s = false → zden L (d + 2) 159 [.ref 136, .int (nI s)] (MO z F J R l o) = some (-1, MO z F J R l o)) := by
  have tx := txr px.gx.bb px.gx.rd
  have len := tx.len
  have W300 := tx.W300
  have k139 := tx.k139
  have g' := px.g' l o
  have pc := plcZ (lim := lim) px.gx.bb px.gx.rd px.gx.qo
  have all := pfZ_all px.gx
  have a147 : Rl R l o 147 = wF (kread bs) := by rw [Rl_o (by omega) (by omega)]; exact px.gx.mt.2.2.2.2.2.2.2.1
  have a148 : Rl R l o 148 = wL (kread bs) := by rw [Rl_o (by omega) (by omega)]; exact px.gx.mt.2.2.2.2.2.2.2.2.1
  -- one word
  have skip : ∀ w, w < ((cread bs).2.1 1).length → (∀ k, k < (pfZ bs Q S lim).length → (pfZ bs Q S lim).getD k 0 = w → ¬ inP (kread bs) (pfZ bs Q S lim) (plZ bs Q S lim) s k) → xruns (O2 L) (zden L (d + 1)) 159 2 [.ref 136, .int (nI s), .int (nI w)] [] (MO z F J R l o) = xruns (O2 L) (zden L (d + 1)) 159 2 [.ref 136, .int (nI s), .int (nI (w + 1))] [] (MO z F J R l o) := by
    intro w hw hk
    rw [B159_2, q14 px, Option.bind_some, iL (by omega) (by omega), if_neg (by omega), B159_10]
    have e151 : zden L (d + 1) 151 [.ref 136, .int (nI w)] (MO z F J R l o) = some (bI (bgn (mkZ bs Q S lim) (jdZ bs Q S lim) w), MO z F J R l o) := m151 g' (by omega)
    rw [e151, Option.bind_some, iB]
    by_cases c : bgn (mkZ bs Q S lim) (jdZ bs Q S lim) w = true
    · obtain ⟨f1, f2⟩ := filt_at (p := bgn (mkZ bs Q S lim) (jdZ bs Q S lim)) c hw
      rw [all] at f1 f2
      generalize hj : ((List.range w).filter (bgn (mkZ bs Q S lim) (jdZ bs Q S lim))).length = j at f1 f2
      have np := hk j f2 f1
      have q := pc.2 j f2
      have wf := tx.wb w hw
      have wf1 := wf.1
      have wf2 := wf.2.1
      have wl := tx.wb _ q.2.1
      have wl2 := wl.2.1
      rw [if_pos c, B159_18, J136_15, Option.bind_some]
      unfold MO
      rw [L147 (by rw [a147, tx.kF]; exact hw) (by omega), Option.bind_some, a147, iT (by omega) (by omega)]
      by_cases c1 : s < (wF (kread bs)).getD w 0
      · rw [if_pos c1, B159_44, nI_add]
      · have e152 := m152 (L := L) (d := d) (z := z) (J := J) g' f2
        rw [f1] at e152
        rw [if_neg c1, B159_28, J136_16, Option.bind_some, e152, Option.bind_some, L148 (by rw [a148, tx.kL]; exact q.2.1) (by omega), Option.bind_some, a148, iT (by omega) (by omega), if_pos (by
          unfold inP at np
          rw [f1] at np
          omega), B159_44, nI_add]
    · rw [if_neg c, B159_44, nI_add]
  refine ⟨fun k hk hp => ?_, fun ho => ?_⟩
  · have q := pc.2 k hk
    have q0 := q.1
    have q1 := q.2.1
    have wf := tx.wb ((pfZ bs Q S lim).getD k 0) (by omega)
    have wf1 := wf.1
    have wf2 := wf.2.1
    have wl := tx.wb _ q.2.1
    have wl2 := wl.2.1
    have loop : ∀ (r w : Nat), w + r = (pfZ bs Q S lim).getD k 0 → xruns (O2 L) (zden L (d + 1)) 159 2 [.ref 136, .int (nI s), .int (nI w)] [] (MO z F J R l o) = some (nI ((pfZ bs Q S lim).getD k 0), MO z F J R l o) := by
      intro r
      induction r with
      | zero =>
        intro w hw
        have : w = (pfZ bs Q S lim).getD k 0 := by omega
        subst this
        have bg := ((places (jdmZ (lim := lim) px.gx.bb px.gx.rd px.gx.qo)).2 k hk).1
        have bg : bgn (mkZ bs Q S lim) (jdZ bs Q S lim) ((pfZ bs Q S lim).getD k 0) = true := bg
        have e151 : zden L (d + 1) 151 [.ref 136, .int (nI ((pfZ bs Q S lim).getD k 0))] (MO z F J R l o) = some (bI (bgn (mkZ bs Q S lim) (jdZ bs Q S lim) ((pfZ bs Q S lim).getD k 0)), MO z F J R l o) := m151 g' (by omega)
        have e152 := m152 (L := L) (d := d) (z := z) (J := J) g' hk
        unfold inP at hp
        rw [B159_2, q14 px, Option.bind_some, iL (by omega) (by omega), if_neg (by omega), B159_10, e151, Option.bind_some, iB, if_pos bg, B159_18, J136_15, Option.bind_some]
        unfold MO
        rw [L147 (by rw [a147, tx.kF]; omega) (by omega), Option.bind_some, a147, iT (by omega) (by omega), if_neg (by omega), B159_28, J136_16, Option.bind_some, e152, Option.bind_some, L148 (by rw [a148, tx.kL]; omega) (by omega), Option.bind_some, a148, iT (by omega) (by omega), if_neg (by omega), B159_42]
      | succ r ih =>
        intro w hw
        rw [skip w (by omega) (fun k' hk' e hp' => by
          have := inP_uniq tx pc hk hk' hp hp'
          rw [← this] at e
          omega)]
        exact ih (w + 1) (by omega)
    rw [N159 _ _ ob136, B159_0]
    exact loop _ 0 (Nat.zero_add _)
  · have loop : ∀ (r w : Nat), w + r = ((cread bs).2.1 1).length → xruns (O2 L) (zden L (d + 1)) 159 2 [.ref 136, .int (nI s), .int (nI w)] [] (MO z F J R l o) = some (-1, MO z F J R l o) := by
      intro r
      induction r with
      | zero =>
        intro w hw
        rw [B159_2, q14 px, Option.bind_some, iL (by omega) (by omega), if_pos (by omega), B159_50]
      | succ r ih =>
        intro w hw
        rw [skip w (by omega) (fun k' hk' e hp' => by
          have := own_iff.mpr ⟨k', hk', hp'⟩
          rw [ho] at this
          cases this)]
        exact ih (w + 1) (by omega)
    rw [N159 _ _ ob136, B159_0]
    exact loop _ 0 (Nat.zero_add _)
end
