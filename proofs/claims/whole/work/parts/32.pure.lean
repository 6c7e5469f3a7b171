-- texts: reading them, as numbers alone (sort, start, end of the word looked at; steps; leaves)
abbrev pS : Type := Nat × Nat × Nat × List Nat × Nat
def sO (b : Nat) : Nat := if 97 ≤ b ∧ b ≤ 122 then 1 else if 48 ≤ b ∧ b ≤ 57 then 2 else 3
def skp (B : Nat → Nat) : Nat → Nat → Nat
  | 0, p => p
  | k + 1, p => if B p = 32 then skp B k (p + 1) else p
def rnn (B : Nat → Nat) (s : Nat) : Nat → Nat → Nat
  | 0, p => p
  | k + 1, p => if sO (B p) = s then rnn B s k (p + 1) else p
def nxP (B : Nat → Nat) (c srt en p : Nat) : Nat × Nat × Nat :=
  if c ≤ p then (0, p, p) else if sO (B p) = 3 then (3, p, p + 1) else (if (srt = 1 ∨ srt = 2) ∧ p = en then 4 else sO (B p), p, rnn B (sO (B p)) (c - p) p)
def nxT (B : Nat → Nat) (c srt en : Nat) : Nat × Nat × Nat := nxP B c srt en (skp B (c - en) en)
def nxS (B : Nat → Nat) (c : Nat) (s : pS) : pS := ((nxT B c s.1 s.2.2.1).1, (nxT B c s.1 s.2.2.1).2.1, (nxT B c s.1 s.2.2.1).2.2, s.2.2.2.1, s.2.2.2.2)
def emS (x : Nat) (s : pS) : pS := (s.1, s.2.1, s.2.2.1, s.2.2.2.1 ++ [x], s.2.2.2.2)
def elS (x : Nat) (s : pS) : pS := (s.1, s.2.1, s.2.2.1, s.2.2.2.1 ++ [x], s.2.2.2.2 + 1)
def sgS (B : Nat → Nat) (s : pS) : Nat := if s.1 = 3 then B s.2.1 else 0
def lvO (g : Nat) : Nat := if g = 124 then 0 else if g = 38 then 1 else if g = 60 then 2 else if g = 61 then 2 else if g = 62 then 2 else if g = 43 then 3 else if g = 45 then 3 else if g = 42 then 4 else if g = 47 then 4 else 5
def vlN (B : Nat → Nat) : Nat → Nat → Nat → Nat
  | 0, _, v => v
  | k + 1, p, v => vlN B k (p + 1) (v * 10 + B p - 48)
def idN (ky b : Nat) : Nat := if ky = 0 then (if b = 114 then 0 else if b = 115 then 1 else if b = 104 then 2 else 3) else if ky = 1 then (if b = 104 then 0 else if b = 115 then 1 else if b = 100 then 2 else 3) else (if b = 98 then 0 else if b = 108 then 1 else 3)
def lfN (B : Nat → Nat) (ky : Nat) (s : pS) : Nat := if s.1 = 2 ∧ s.2.2.1 ≤ s.2.1 + 4 then vlN B (s.2.2.1 - s.2.1) s.2.1 0 else if s.1 = 1 ∧ s.2.2.1 = s.2.1 + 1 then (if idN ky (B s.2.1) < 3 then 10000 + idN ky (B s.2.1) else 20000) else 20000
def pLp (B : Nat → Nat) (c : Nat) (R : pS → Bool × pS) (lv : Nat) : Nat → pS → Bool × pS
  | 0, s => (true, s)
  | k + 1, s => if lvO (sgS B s) = lv then (if (R (nxS B c s)).1 = true then pLp B c R lv k (emS (20000 + sgS B s) (R (nxS B c s)).2) else (false, (R (nxS B c s)).2)) else (true, s)
def pG (B : Nat → Nat) (c ky : Nat) : Nat → Nat → Nat → Nat → pS → Bool × pS
  | 0, _, _, _, s => (false, s)
  | f + 1, lv, p, q, s =>
    if 5 ≤ lv then
      (if sgS B s = 33 then (if q < 8 then (if (pG B c ky f 5 p (q + 1) (nxS B c s)).1 = true then (true, emS 20033 (pG B c ky f 5 p (q + 1) (nxS B c s)).2) else (false, (pG B c ky f 5 p (q + 1) (nxS B c s)).2)) else (false, s))
      else if sgS B s = 40 then (if p < 8 then (if (pG B c ky f 0 (p + 1) q (nxS B c s)).1 = true then (if sgS B (pG B c ky f 0 (p + 1) q (nxS B c s)).2 = 41 then (true, nxS B c (pG B c ky f 0 (p + 1) q (nxS B c s)).2) else (false, (pG B c ky f 0 (p + 1) q (nxS B c s)).2)) else (false, (pG B c ky f 0 (p + 1) q (nxS B c s)).2)) else (false, s))
      else if lfN B ky s = 20000 then (false, s) else (true, nxS B c (elS (lfN B ky s) s)))
    else (if (pG B c ky f (lv + 1) p q s).1 = true then pLp B c (pG B c ky f (lv + 1) p q) lv (if lv = 2 then 1 else 96) (pG B c ky f (lv + 1) p q s).2 else (false, (pG B c ky f (lv + 1) p q s).2))
/-- what steps make of the stack's height -/
def hE : List Nat → Nat → Option Nat
  | [], t => some t
  | x :: l, t => if x < 20000 then hE l (t + 1) else if x = 20033 then (if 1 ≤ t then hE l t else none) else (if 2 ≤ t then hE l (t - 1) else none)
def svN (ky x : Nat) : Prop := x ≤ 9999 ∨ (10000 ≤ x ∧ x < 10000 + (if ky = 2 then 2 else 3)) ∨ x = 20033 ∨ (x = 20124 ∨ x = 20038 ∨ x = 20060 ∨ x = 20061 ∨ x = 20062 ∨ x = 20043 ∨ x = 20045 ∨ x = 20042 ∨ x = 20047)
def rfI (x : Nat) : Int32 := if x ≤ 9999 then nI x else if x < 20000 then -10 + nI (x - 10000) else if x = 20033 then -29 else if x = 20124 then -20 else if x = 20038 then -21 else if x = 20060 then -22 else if x = 20061 then -23 else if x = 20062 then -24 else if x = 20043 then -25 else if x = 20045 then -26 else if x = 20042 then -27 else -28
def okT (B : Nat → Nat) (c : Nat) (s : pS) : Prop := s.1 ≤ 4 ∧ s.2.1 ≤ s.2.2.1 ∧ s.2.2.1 ≤ c ∧ (s.1 = 3 → s.2.2.1 = s.2.1 + 1) ∧ (s.1 ≠ 0 → s.2.1 < s.2.2.1) ∧ (s.1 = 2 → ∀ k, s.2.1 ≤ k → k < s.2.2.1 → 48 ≤ B k ∧ B k ≤ 57)
def pOK (B : Nat → Nat) (c ky : Nat) (s s' : pS) : Prop := okT B c s' ∧ ∃ l, s'.2.2.2.1 = s.2.2.2.1 ++ l ∧ (∀ t, hE l t = some (t + 1)) ∧ (∀ x, x ∈ l → svN ky x) ∧ s.2.1 + l.length ≤ s'.2.1
section C32
variable {B : Nat → Nat} {c ky : Nat}
theorem skp_le : ∀ (k p : Nat), p ≤ skp B k p ∧ skp B k p ≤ p + k := by
  intro k
  induction k with
  | zero => intro p; exact ⟨Nat.le_refl _, Nat.le_refl _⟩
  | succ k ih =>
    intro p
    rw [skp]
    have h := ih (p + 1)
    split <;> omega
theorem rnn_le {s : Nat} : ∀ (k p : Nat), p ≤ rnn B s k p ∧ rnn B s k p ≤ p + k ∧ ∀ j, p ≤ j → j < rnn B s k p → sO (B j) = s := by
  intro k
  induction k with
  | zero => intro p; exact ⟨Nat.le_refl _, Nat.le_refl _, fun j h1 h2 => by rw [rnn] at h2; omega⟩
  | succ k ih =>
    intro p
    rw [rnn]
    have h := ih (p + 1)
    split
    · rename_i e
      refine ⟨by omega, by omega, fun j h1 h2 => ?_⟩
      by_cases hj : j = p
      · rw [hj]; exact e
      · exact h.2.2 j (by omega) h2
    · exact ⟨by omega, by omega, fun j h1 h2 => by omega⟩
theorem rnn_lt {s k p : Nat} (h : sO (B p) = s) : p < rnn B s (k + 1) p := by
  rw [rnn, if_pos h]
  have := (rnn_le (B := B) (s := s) k (p + 1)).1
  omega
theorem sO_2 {b : Nat} (h : sO b = 2) : 48 ≤ b ∧ b ≤ 57 := by
  unfold sO at h
  split at h
  · omega
  · split at h
    · assumption
    · omega
theorem sO_le {b : Nat} : 1 ≤ sO b ∧ sO b ≤ 3 := by
  unfold sO
  split
  · omega
  · split <;> omega
theorem okT_nx {s : pS} (h : s.2.2.1 ≤ c) : okT B c (nxS B c s) ∧ s.2.2.1 ≤ (nxS B c s).2.1 := by
  obtain ⟨a, b, e, l, v⟩ := s
  have h : e ≤ c := h
  have k := skp_le (B := B) (c - e) e
  show okT B c ((nxP B c a e (skp B (c - e) e)).1, (nxP B c a e (skp B (c - e) e)).2.1, (nxP B c a e (skp B (c - e) e)).2.2, l, v) ∧ e ≤ (nxP B c a e (skp B (c - e) e)).2.1
  generalize skp B (c - e) e = p at k ⊢
  unfold nxP
  by_cases h1 : c ≤ p
  · rw [if_pos h1]
    exact ⟨⟨by omega, Nat.le_refl _, by show p ≤ c; omega, fun y => absurd (show (0 : Nat) = 3 from y) (by decide), fun y => absurd rfl y, fun y => absurd (show (0 : Nat) = 2 from y) (by decide)⟩, k.1⟩
  · rw [if_neg h1]
    by_cases h2 : sO (B p) = 3
    · rw [if_pos h2]
      exact ⟨⟨by omega, by show p ≤ p + 1; omega, by show p + 1 ≤ c; omega, fun _ => rfl, fun _ => by show p < p + 1; omega, fun y => absurd (show (3 : Nat) = 2 from y) (by decide)⟩, k.1⟩
    · rw [if_neg h2]
      have hs := sO_le (b := B p)
      obtain ⟨r1, r2, r3⟩ := rnn_le (B := B) (s := sO (B p)) (c - p) p
      have r4 : p < rnn B (sO (B p)) (c - p) p := by
        have e : c - p = (c - p - 1) + 1 := by omega
        rw [e]
        exact rnn_lt rfl
      generalize rnn B (sO (B p)) (c - p) p = z at r1 r2 r3 r4
      refine ⟨⟨?_, r1, by show z ≤ c; omega, fun y => ?_, fun _ => r4, fun y => ?_⟩, k.1⟩
      · show (if (a = 1 ∨ a = 2) ∧ p = e then 4 else sO (B p)) ≤ 4
        split <;> omega
      · have y : (if (a = 1 ∨ a = 2) ∧ p = e then 4 else sO (B p)) = 3 := y
        split at y <;> omega
      · have y : (if (a = 1 ∨ a = 2) ∧ p = e then 4 else sO (B p)) = 2 := y
        have y2 : sO (B p) = 2 := by split at y <;> omega
        intro j h3 h4
        exact sO_2 ((r3 j h3 h4).trans y2)
theorem hE_app : ∀ (l l' : List Nat) (t : Nat), hE (l ++ l') t = (hE l t).bind (hE l') := by
  intro l
  induction l with
  | nil => intro l' t; rfl
  | cons x l ih =>
    intro l' t
    show hE (x :: (l ++ l')) t = _
    rw [hE, hE]
    split
    · exact ih _ _
    · split
      · split
        · exact ih _ _
        · rfl
      · split
        · exact ih _ _
        · rfl
theorem vl_le {k p : Nat} (hk : k ≤ 4) (h : ∀ j, p ≤ j → j < p + k → 48 ≤ B j ∧ B j ≤ 57) : vlN B k p 0 ≤ 9999 := by
  have : k = 0 ∨ k = 1 ∨ k = 2 ∨ k = 3 ∨ k = 4 := by omega
  rcases this with rfl | rfl | rfl | rfl | rfl
  · simp only [vlN]; omega
  · have h0 := h p (by omega) (by omega)
    simp only [vlN]; omega
  · have h0 := h p (by omega) (by omega)
    have h1 := h (p + 1) (by omega) (by omega)
    simp only [vlN]; omega
  · have h0 := h p (by omega) (by omega)
    have h1 := h (p + 1) (by omega) (by omega)
    have h2 := h (p + 1 + 1) (by omega) (by omega)
    simp only [vlN]; omega
  · have h0 := h p (by omega) (by omega)
    have h1 := h (p + 1) (by omega) (by omega)
    have h2 := h (p + 1 + 1) (by omega) (by omega)
    have h3 := h (p + 1 + 1 + 1) (by omega) (by omega)
    simp only [vlN]; omega
theorem idN_3 {b : Nat} (h : idN 2 b < 3) : idN 2 b < 2 := by
  unfold idN at h ⊢
  rw [if_neg (by omega), if_neg (by omega)] at h ⊢
  split
  · omega
  · split
    · omega
    · rename_i h1 h2
      rw [if_neg h1, if_neg h2] at h
      omega
theorem lfN_sv {s : pS} (hk : ky < 3) (h : okT B c s) (hn : ¬ lfN B ky s = 20000) : svN ky (lfN B ky s) ∧ lfN B ky s < 20000 ∧ s.1 ≠ 0 := by
  obtain ⟨h1, h2, h3, h4, h5, h6⟩ := h
  unfold lfN at hn ⊢
  by_cases c1 : s.1 = 2 ∧ s.2.2.1 ≤ s.2.1 + 4
  · rw [if_pos c1]
    have hv := vl_le (B := B) (k := s.2.2.1 - s.2.1) (p := s.2.1) (by omega) (fun j g1 g2 => h6 c1.1 j g1 (by omega))
    exact ⟨.inl hv, by omega, by omega⟩
  · rw [if_neg c1] at hn ⊢
    by_cases c2 : s.1 = 1 ∧ s.2.2.1 = s.2.1 + 1
    · rw [if_pos c2] at hn ⊢
      by_cases c3 : idN ky (B s.2.1) < 3
      · rw [if_pos c3]
        refine ⟨.inr (.inl ⟨by omega, ?_⟩), by omega, by omega⟩
        by_cases k2 : ky = 2
        · subst k2
          have := idN_3 c3
          rw [if_pos rfl]
          omega
        · rw [if_neg k2]
          omega
      · rw [if_neg c3] at hn
        exact absurd rfl hn
    · rw [if_neg c2] at hn
      exact absurd rfl hn
theorem lv_op {g lv : Nat} (h : lvO g = lv) (hl : lv < 5) : svN ky (20000 + g) ∧ ¬ g = 33 ∧ g ≠ 0 := by
  subst h
  have : g = 124 ∨ g = 38 ∨ g = 60 ∨ g = 61 ∨ g = 62 ∨ g = 43 ∨ g = 45 ∨ g = 42 ∨ g = 47 := by
    unfold lvO at hl
    by_cases e1 : g = 124
    · omega
    by_cases e2 : g = 38
    · omega
    by_cases e3 : g = 60
    · omega
    by_cases e4 : g = 61
    · omega
    by_cases e5 : g = 62
    · omega
    by_cases e6 : g = 43
    · omega
    by_cases e7 : g = 45
    · omega
    by_cases e8 : g = 42
    · omega
    by_cases e9 : g = 47
    · omega
    rw [if_neg e1, if_neg e2, if_neg e3, if_neg e4, if_neg e5, if_neg e6, if_neg e7, if_neg e8, if_neg e9] at hl
    omega
  refine ⟨.inr (.inr (.inr (by omega))), by omega, by omega⟩
theorem sg_3 {s : pS} (h : sgS B s ≠ 0) : s.1 = 3 := by
  unfold sgS at h
  split at h
  · assumption
  · exact absurd rfl h
def pQ (B : Nat → Nat) (c ky : Nat) (s : pS) (r : Bool × pS) : Prop := okT B c r.2 ∧ s.2.1 ≤ r.2.2.1 ∧ (r.1 = true → pOK B c ky s r.2)
theorem pLp_ok {R : pS → Bool × pS} {lv : Nat} (hl : lv < 5) (hR : ∀ s, okT B c s → pQ B c ky s (R s)) : ∀ (k : Nat) (s0 s : pS), pOK B c ky s0 s → s0.2.1 ≤ s.2.1 → pQ B c ky s0 (pLp B c R lv k s) := by
  intro k
  induction k with
  | zero => intro s0 s h h1; exact ⟨h.1, h1, fun _ => h⟩
  | succ k ih =>
    intro s0 s h h1
    rw [pLp]
    by_cases hg : lvO (sgS B s) = lv
    · rw [if_pos hg]
      obtain ⟨o1, o2, o3⟩ := lv_op (ky := ky) hg hl
      have h3 := sg_3 o3
      obtain ⟨⟨a1, a2, a3, a4, a5, a6⟩, l, b1, b2, b3, b4⟩ := h
      obtain ⟨n1, n2⟩ := okT_nx (B := B) (c := c) (s := s) a3
      obtain ⟨q1, q2, q3⟩ := hR _ n1
      have e4 := a4 h3
      by_cases hr : (R (nxS B c s)).1 = true
      · rw [if_pos hr]
        obtain ⟨r0, l2, r1, r2, r3, r4⟩ := q3 hr
        have hc : (nxS B c s).2.2.2.1 = s.2.2.2.1 := rfl
        refine ih s0 _ ⟨r0, l ++ l2 ++ [20000 + sgS B s], ?_, fun t => ?_, fun x hx => ?_, ?_⟩ ?_
        · show (R (nxS B c s)).2.2.2.2.1 ++ [20000 + sgS B s] = _
          rw [r1, hc, b1, List.append_assoc, List.append_assoc, List.append_assoc]
        · rw [hE_app, hE_app, b2]
          show ((hE l2 (t + 1)).bind _) = _
          rw [r2]
          show hE [20000 + sgS B s] (t + 1 + 1) = _
          rw [hE, if_neg (by omega), if_neg (by omega), if_pos (by omega)]
          rfl
        · rw [List.mem_append, List.mem_append, List.mem_singleton] at hx
          rcases hx with (hx | hx) | hx
          · exact b3 x hx
          · exact r3 x hx
          · rw [hx]; exact o1
        · show s0.2.1 + (l ++ l2 ++ [20000 + sgS B s]).length ≤ (R (nxS B c s)).2.2.1
          rw [List.length_append, List.length_append, List.length_singleton]
          omega
        · show s0.2.1 ≤ (R (nxS B c s)).2.2.1
          omega
      · rw [if_neg hr]
        exact ⟨q1, by show s0.2.1 ≤ (R (nxS B c s)).2.2.1; omega, fun y => by cases y⟩
    · rw [if_neg hg]
      exact ⟨h.1, h1, fun _ => h⟩
theorem pG_ok (hk : ky < 3) : ∀ (f lv p q : Nat) (s : pS), okT B c s → pQ B c ky s (pG B c ky f lv p q s) := by
  intro f
  induction f with
  | zero => intro lv p q s h; exact ⟨h, Nat.le_refl _, fun y => by cases y⟩
  | succ f ih =>
    intro lv p q s h
    rw [pG]
    have h' := h
    obtain ⟨a1, a2, a3, a4, a5, a6⟩ := h
    obtain ⟨n1, n2⟩ := okT_nx (B := B) (c := c) (s := s) a3
    by_cases h5 : 5 ≤ lv
    · rw [if_pos h5]
      by_cases g33 : sgS B s = 33
      · rw [if_pos g33]
        have h3 := sg_3 (B := B) (s := s) (by omega)
        have e4 := a4 h3
        by_cases hq : q < 8
        · rw [if_pos hq]
          obtain ⟨q1, q2, q3⟩ := ih 5 p (q + 1) _ n1
          generalize pG B c ky f 5 p (q + 1) (nxS B c s) = r at q1 q2 q3
          by_cases hr : r.1 = true
          · rw [if_pos hr]
            obtain ⟨r0, l2, r1, r2, r3, r4⟩ := q3 hr
            have hc : (nxS B c s).2.2.2.1 = s.2.2.2.1 := rfl
            refine ⟨r0, by show s.2.1 ≤ r.2.2.1; omega, fun _ => ⟨r0, l2 ++ [20033], ?_, fun t => ?_, fun x hx => ?_, ?_⟩⟩
            · show r.2.2.2.2.1 ++ [20033] = _
              rw [r1, hc, List.append_assoc]
            · rw [hE_app, r2]
              show hE [20033] (t + 1) = _
              rw [hE, if_neg (by omega), if_pos rfl, if_pos (by omega)]
              rfl
            · rw [List.mem_append, List.mem_singleton] at hx
              rcases hx with hx | hx
              · exact r3 x hx
              · rw [hx]; exact .inr (.inr (.inl rfl))
            · show s.2.1 + (l2 ++ [20033]).length ≤ r.2.2.1
              rw [List.length_append, List.length_singleton]
              omega
          · rw [if_neg hr]
            exact ⟨q1, by show s.2.1 ≤ r.2.2.1; omega, fun y => by cases y⟩
        · rw [if_neg hq]
          exact ⟨h', Nat.le_refl _, fun y => by cases y⟩
      · rw [if_neg g33]
        by_cases g40 : sgS B s = 40
        · rw [if_pos g40]
          have h3 := sg_3 (B := B) (s := s) (by omega)
          have e4 := a4 h3
          by_cases hp : p < 8
          · rw [if_pos hp]
            obtain ⟨q1, q2, q3⟩ := ih 0 (p + 1) q _ n1
            generalize pG B c ky f 0 (p + 1) q (nxS B c s) = r at q1 q2 q3
            by_cases hr : r.1 = true
            · rw [if_pos hr]
              by_cases g41 : sgS B r.2 = 41
              · rw [if_pos g41]
                obtain ⟨r0, l2, r1, r2, r3, r4⟩ := q3 hr
                have hc : (nxS B c s).2.2.2.1 = s.2.2.2.1 := rfl
                obtain ⟨m1, m2⟩ := okT_nx (B := B) (c := c) (s := r.2) r0.2.2.1
                have m3 := r0.2.1
                refine ⟨m1, by show s.2.1 ≤ (nxS B c r.2).2.1; omega, fun _ => ⟨m1, l2, ?_, r2, r3, ?_⟩⟩
                · show r.2.2.2.2.1 = _
                  rw [r1, hc]
                · show s.2.1 + l2.length ≤ (nxS B c r.2).2.1
                  omega
              · rw [if_neg g41]
                exact ⟨q1, by show s.2.1 ≤ r.2.2.1; omega, fun y => by cases y⟩
            · rw [if_neg hr]
              exact ⟨q1, by show s.2.1 ≤ r.2.2.1; omega, fun y => by cases y⟩
          · rw [if_neg hp]
            exact ⟨h', Nat.le_refl _, fun y => by cases y⟩
        · rw [if_neg g40]
          by_cases hf : lfN B ky s = 20000
          · rw [if_pos hf]
            exact ⟨h', Nat.le_refl _, fun y => by cases y⟩
          · rw [if_neg hf]
            obtain ⟨v1, v2, v3⟩ := lfN_sv hk h' hf
            have e5 := a5 v3
            obtain ⟨m1, m2⟩ := okT_nx (B := B) (c := c) (s := elS (lfN B ky s) s) a3
            have m2 : s.2.2.1 ≤ (nxS B c (elS (lfN B ky s) s)).2.1 := m2
            refine ⟨m1, by show s.2.1 ≤ (nxS B c (elS (lfN B ky s) s)).2.1; omega, fun _ => ⟨m1, [lfN B ky s], rfl, fun t => ?_, fun x hx => ?_, ?_⟩⟩
            · rw [hE, if_pos v2]
              rfl
            · rw [List.mem_singleton.mp hx]; exact v1
            · show s.2.1 + 1 ≤ (nxS B c (elS (lfN B ky s) s)).2.1
              omega
    · rw [if_neg h5]
      have hq := ih (lv + 1) p q s h'
      by_cases hr : (pG B c ky f (lv + 1) p q s).1 = true
      · rw [if_pos hr]
        exact pLp_ok (by omega) (fun s hs => ih (lv + 1) p q s hs) _ _ _ (hq.2.2 hr) hq.2.1
      · rw [if_neg hr]
        exact ⟨hq.1, hq.2.1, fun y => by cases y⟩
theorem hE_wf {s : Nat → Int32} {l : List Nat} (hs : ∀ j, j < l.length → s j = nI (l.getD j 0)) (hb : ∀ j, j < l.length → l.getD j 0 < 30000) : ∀ (k i t : Nat), i + k = l.length → hE (l.drop i) t = some 1 → wfS s k i t := by
  intro k
  induction k with
  | zero =>
    intro i t hk h
    rw [List.drop_eq_nil_of_le (by omega)] at h
    exact Option.some.inj h
  | succ k ih =>
    intro i t hk h
    have hd : l.drop i = l.getD i 0 :: l.drop (i + 1) := by
      rw [List.drop_eq_getElem_cons (by omega), List.getD_eq_getElem?_getD, List.getElem?_eq_getElem (by omega)]
      rfl
    have hbi := hb i (by omega)
    rw [hd, hE] at h
    rw [wfS, hs i (by omega)]
    have e1 := L_lt (a := l.getD i 0) (b := 20000) (by omega) (by omega)
    have e2 := L_eq (a := l.getD i 0) (b := 20033) (by omega) (by omega)
    by_cases c1 : l.getD i 0 < 20000
    · rw [if_pos c1] at h
      rw [if_pos (e1 ▸ c1)]
      exact ih _ _ (by omega) h
    · rw [if_neg c1] at h
      rw [if_neg (e1 ▸ c1)]
      by_cases c2 : l.getD i 0 = 20033
      · rw [if_pos c2] at h
        rw [if_pos (e2 ▸ c2)]
        by_cases c3 : 1 ≤ t
        · rw [if_pos c3] at h
          exact ⟨c3, ih _ _ (by omega) h⟩
        · rw [if_neg c3] at h
          cases h
      · rw [if_neg c2] at h
        rw [if_neg (e2 ▸ c2)]
        by_cases c3 : 2 ≤ t
        · rw [if_pos c3] at h
          exact ⟨c3, ih _ _ (by omega) h⟩
        · rw [if_neg c3] at h
          cases h
theorem sv_lt {x : Nat} (h : svN ky x) : x < 30000 := by
  unfold svN at h
  rcases h with h | h | h | h
  · omega
  · split at h <;> omega
  · omega
  · omega
theorem sv_cR {x : Nat} (h : svN ky x) : cR (if ky = 2 then 2 else 3) (nI x) (rfI x) := by
  unfold svN at h
  rcases h with h | ⟨h1, h2⟩ | h | h
  · exact .inl ⟨x, h, rfl, by unfold rfI; rw [if_pos h]⟩
  · refine .inr (.inl ⟨x - 10000, by omega, by rw [Nat.add_sub_cancel' h1], ?_⟩)
    unfold rfI
    rw [if_neg (by omega), if_pos (by split at h2 <;> omega)]
  · subst h
    exact .inr (.inr (.inl ⟨rfl, rfl⟩))
  · refine .inr (.inr (.inr ⟨x - 20000, by rw [Nat.add_sub_cancel' (by omega)], ?_⟩))
    rcases h with rfl | rfl | rfl | rfl | rfl | rfl | rfl | rfl | rfl
    · exact .inl ⟨rfl, rfl⟩
    · exact .inr (.inl ⟨rfl, rfl⟩)
    · exact .inr (.inr (.inl ⟨rfl, rfl⟩))
    · exact .inr (.inr (.inr (.inl ⟨rfl, rfl⟩)))
    · exact .inr (.inr (.inr (.inr (.inl ⟨rfl, rfl⟩))))
    · exact .inr (.inr (.inr (.inr (.inr (.inl ⟨rfl, rfl⟩)))))
    · exact .inr (.inr (.inr (.inr (.inr (.inr (.inl ⟨rfl, rfl⟩))))))
    · exact .inr (.inr (.inr (.inr (.inr (.inr (.inr (.inl ⟨rfl, rfl⟩)))))))
    · exact .inr (.inr (.inr (.inr (.inr (.inr (.inr (.inr ⟨rfl, rfl⟩)))))))
end C32
