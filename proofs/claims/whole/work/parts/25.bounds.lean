-- gardens: how large their numbers are
theorem clamp_toInt {x : Int32} (h : 0 ≤ x.toInt) : (x.toNatClampNeg : Int) = x.toInt := by
  show ((x.toInt.toNat : Nat) : Int) = x.toInt
  omega
theorem in_nI {x : Int32} {lo hi : Nat} (h1 : nI lo ≤ x) (h2 : x ≤ nI hi) (hl : lo < 2147483648) (hh : hi < 2147483648) : ∃ k, lo ≤ k ∧ k ≤ hi ∧ x = nI k := by
  rw [le_toInt, nI_toInt (by omega)] at h1 h2
  have h0 : 0 ≤ x.toInt := by omega
  have e := clamp_toInt h0
  exact ⟨x.toNatClampNeg, by omega, by omega, nI_clampI h0⟩
theorem t_nI {x : Int32} {hi : Nat} (h1 : 0 ≤ x.toInt) (h2 : x.toInt ≤ hi) : ∃ k, k ≤ hi ∧ x = nI k := by
  have e := clamp_toInt h1
  exact ⟨x.toNatClampNeg, by omega, nI_clampI h1⟩
theorem nI_div {a k : Nat} (hk : 0 < k) (ha : a < 2147483648) (hk2 : k < 2147483648) : nI a / nI k = nI (a / k) := by
  apply Int32.toInt_inj.mp
  have hd : a / k ≤ a := Nat.div_le_self a k
  rw [Int32.toInt_div, nI_toInt (by omega), nI_toInt (by omega), nI_toInt (by omega)]
  rw [Int.tdiv_eq_ediv_of_nonneg (by omega)]
  have : (a : Int) / (k : Int) = ((a / k : Nat) : Int) := by omega
  rw [this]
  clear this
  generalize a / k = q at hd ⊢
  exact Int.bmod_eq_of_le (by omega) (by omega)
def btB (w : Nat → Int32) (i : Nat) : Prop := (∃ k, k < 6 ∧ w (13 + 4 * i + 0) = nI k) ∧ 1 ≤ (w (13 + 4 * i + 1)).toInt ∧ (w (13 + 4 * i + 1)).toInt ≤ 999 ∧ 0 ≤ (w (13 + 4 * i + 2)).toInt ∧ (w (13 + 4 * i + 2)).toInt ≤ (w (13 + 4 * i + 1)).toInt ∧ 0 ≤ (w (13 + 4 * i + 3)).toInt ∧ (w (13 + 4 * i + 3)).toInt ≤ 999
def bdB (w : Nat → Int32) (j : Nat) : Prop := 0 ≤ (w (45 + 3 * j + 0)).toInt ∧ (w (45 + 3 * j + 0)).toInt ≤ 99 ∧ 0 ≤ (w (45 + 3 * j + 2)).toInt ∧ (w (45 + 3 * j + 2)).toInt ≤ 99 * (w 1).toInt
def gB (w : Nat → Int32) (n m : Nat) (D : Nat) : Prop := gOK w n m ∧ (∀ i, i < n → btB w i) ∧ (∀ j, j < m → bdB w j) ∧ 0 ≤ (w 1).toInt ∧ (w 1).toInt ≤ D
section C25
variable {n m i j r D : Nat} {w : Nat → Int32} {T : gT} {x y z : Int32}
theorem hO_set (h : ∀ i, i < n → btB w i) (h1 : 0 ≤ x.toInt) (h2 : x.toInt ≤ (w (13 + 4 * i + 1)).toInt) : ∀ j, j < n → btB (wS w (13 + 4 * i + 2) x) j := by
  intro j hj
  obtain ⟨a1, a2, a3, a4, a5, a6, a7⟩ := h j hj
  unfold btB
  by_cases e : j = i
  · subst e
    rw [wS_hit rfl, wS_miss (by omega), wS_miss (by omega), wS_miss (by omega)]
    exact ⟨a1, a2, a3, h1, h2, a6, a7⟩
  · rw [wS_miss (by omega), wS_miss (by omega), wS_miss (by omega), wS_miss (by omega)]
    exact ⟨a1, a2, a3, a4, a5, a6, a7⟩
theorem hO_o {o : Nat} (hn : n ≤ 8) (h : ∀ i, i < n → btB w i) (ho : o < 13 ∨ 45 ≤ o) : ∀ j, j < n → btB (wS w o x) j := by
  intro j hj
  have q := h j hj
  unfold btB at q ⊢
  rw [wS_miss (by omega), wS_miss (by omega), wS_miss (by omega), wS_miss (by omega)]
  exact q
theorem hO_kind {k : Nat} (hk : k < 6) (h : ∀ i, i < n → btB w i) : ∀ j, j < n → btB (wS w (13 + 4 * i + 0) (nI k)) j := by
  intro j hj
  obtain ⟨a1, a2, a3, a4, a5, a6, a7⟩ := h j hj
  unfold btB
  by_cases e : j = i
  · subst e
    rw [wS_hit rfl, wS_miss (by omega), wS_miss (by omega), wS_miss (by omega)]
    exact ⟨⟨k, hk, rfl⟩, a2, a3, a4, a5, a6, a7⟩
  · rw [wS_miss (by omega), wS_miss (by omega), wS_miss (by omega), wS_miss (by omega)]
    exact ⟨a1, a2, a3, a4, a5, a6, a7⟩
theorem hO_room (h : ∀ i, i < n → btB w i) (h1 : 1 ≤ x.toInt) (h2 : x.toInt ≤ 999) (h3 : (w (13 + 4 * i + 2)).toInt ≤ x.toInt) : ∀ j, j < n → btB (wS w (13 + 4 * i + 1) x) j := by
  intro j hj
  obtain ⟨a1, a2, a3, a4, a5, a6, a7⟩ := h j hj
  unfold btB
  by_cases e : j = i
  · subst e
    rw [wS_hit rfl, wS_miss (by omega), wS_miss (by omega), wS_miss (by omega)]
    exact ⟨a1, h1, h2, a4, h3, a6, a7⟩
  · rw [wS_miss (by omega), wS_miss (by omega), wS_miss (by omega), wS_miss (by omega)]
    exact ⟨a1, a2, a3, a4, a5, a6, a7⟩
theorem hO_tap (h : ∀ i, i < n → btB w i) (h1 : 0 ≤ x.toInt) (h2 : x.toInt ≤ 999) : ∀ j, j < n → btB (wS w (13 + 4 * i + 3) x) j := by
  intro j hj
  obtain ⟨a1, a2, a3, a4, a5, a6, a7⟩ := h j hj
  unfold btB
  by_cases e : j = i
  · subst e
    rw [wS_hit rfl, wS_miss (by omega), wS_miss (by omega), wS_miss (by omega)]
    exact ⟨a1, a2, a3, a4, a5, h1, h2⟩
  · rw [wS_miss (by omega), wS_miss (by omega), wS_miss (by omega), wS_miss (by omega)]
    exact ⟨a1, a2, a3, a4, a5, a6, a7⟩
theorem pPl_B (hr : r ≤ 9) : 0 ≤ (pPl T w i r).toInt ∧ (pPl T w i r).toInt ≤ 999 := by
  unfold pPl
  split
  · rw [nI_toInt (by omega)]; omega
  · rw [hd_toInt (by rw [nI_toInt (by omega)]; omega), nI_toInt (by omega)]
    split <;> (try split) <;> omega
theorem pKc_B {k : Int32} (h1 : 0 ≤ x.toInt) (h2 : x.toInt ≤ 999) : 0 ≤ (pKc k x).toInt ∧ (pKc k x).toInt ≤ 1998 := by
  obtain ⟨a, ha, rfl⟩ := t_nI (hi := 999) h1 h2
  have e0 : (nI 0).toInt = 0 := nI_toInt (by omega)
  have e5 : (nI 5).toInt = 5 := nI_toInt (by omega)
  have e10 : (nI 10).toInt = 10 := nI_toInt (by omega)
  have ea : (nI a).toInt = a := nI_toInt (by omega)
  unfold pKc
  split
  · rw [nI_div (by omega) (by omega) (by omega), nI_toInt (by omega)]; omega
  · split
    · rw [mx_toInt, sub_toInt (by omega) (by omega), e0, e5, ea]
      split <;> omega
    · split
      · rw [e0]; omega
      · split
        · rw [mx_toInt, sub_toInt (by omega) (by omega), e0, e10, ea]
          split <;> omega
        · split
          · rw [nI_mul, nI_toInt (by omega)]; omega
          · omega
theorem pCa_B (hr : r ≤ 9) : 0 ≤ (pCa T w i r).toInt ∧ (pCa T w i r).toInt ≤ 1998 := pKc_B (pPl_B hr).1 (pPl_B hr).2
theorem pKl_B {k : Int32} (h1 : 0 ≤ x.toInt) : 0 ≤ (pKl k x).toInt ∧ (pKl k x).toInt ≤ x.toInt := by
  have hh := hi_toInt x
  obtain ⟨a, ha, rfl⟩ := t_nI (hi := 2147483647) h1 (by omega)
  have e0 : (nI 0).toInt = 0 := nI_toInt (by omega)
  have ea : (nI a).toInt = a := nI_toInt (by omega)
  unfold pKl
  split
  · rw [e0]; omega
  · split
    · rw [e0]; omega
    · split
      · rw [nI_div (by omega) (by omega) (by omega), nI_toInt (by omega)]; omega
      · omega
theorem pLs_B (h : 0 ≤ (w (13 + 4 * i + 2)).toInt) : 0 ≤ (pLs T w i).toInt ∧ (pLs T w i).toInt ≤ (w (13 + 4 * i + 2)).toInt := by
  have key : ∀ v, 0 ≤ (pKl (w (13 + 4 * i + 0)) (hdI v (w (13 + 4 * i + 2)))).toInt ∧ (pKl (w (13 + 4 * i + 0)) (hdI v (w (13 + 4 * i + 2)))).toInt ≤ (w (13 + 4 * i + 2)).toInt := by
    intro v
    have e := hd_toInt (x := v) h
    have q : 0 ≤ (hdI v (w (13 + 4 * i + 2))).toInt ∧ (hdI v (w (13 + 4 * i + 2))).toInt ≤ (w (13 + 4 * i + 2)).toInt := by
      rw [e]
      split <;> (try split) <;> omega
    have k := pKl_B (k := w (13 + 4 * i + 0)) q.1
    omega
  exact key _
theorem pFa_B (hr : r ≤ 9) (hn : n ≤ 8) : ∀ (k i : Nat) (w : Nat → Int32) (o : Int32), i + k = n → (∀ i, i < n → btB w i) → 0 ≤ o.toInt → o.toInt ≤ 3000 * i → ∀ q, q < n → btB (pFa T r k i w o).1 q := by
  intro k
  induction k with
  | zero =>
    intro i w o hk h h1 h2
    exact hO_o hn h (by omega)
  | succ k ih =>
    intro i w o hk h h1 h2
    have c := pCa_B (T := T) (w := w) (i := i) hr
    obtain ⟨a1, a2, a3, a4, a5, a6, a7⟩ := h i (by omega)
    have e1 : (w (13 + 4 * i + 2) + pCa T w i r).toInt = (w (13 + 4 * i + 2)).toInt + (pCa T w i r).toInt := add_toInt (by omega) (by omega)
    have e2 : (w (13 + 4 * i + 2) + pCa T w i r + o).toInt = (w (13 + 4 * i + 2)).toInt + (pCa T w i r).toInt + o.toInt := by rw [add_toInt (by omega) (by omega), e1]
    have e3 : (mnI (w (13 + 4 * i + 2) + pCa T w i r + o) (w (13 + 4 * i + 1))).toInt = if (w (13 + 4 * i + 1)).toInt < (w (13 + 4 * i + 2)).toInt + (pCa T w i r).toInt + o.toInt then (w (13 + 4 * i + 1)).toInt else (w (13 + 4 * i + 2)).toInt + (pCa T w i r).toInt + o.toInt := by rw [mn_toInt, e2]
    have q : 0 ≤ (mnI (w (13 + 4 * i + 2) + pCa T w i r + o) (w (13 + 4 * i + 1))).toInt ∧ (mnI (w (13 + 4 * i + 2) + pCa T w i r + o) (w (13 + 4 * i + 1))).toInt ≤ (w (13 + 4 * i + 1)).toInt ∧ (mnI (w (13 + 4 * i + 2) + pCa T w i r + o) (w (13 + 4 * i + 1))).toInt ≤ (w (13 + 4 * i + 2) + pCa T w i r + o).toInt := by
      rw [e3, e2]
      split <;> omega
    have e4 := sub_toInt (x := w (13 + 4 * i + 2) + pCa T w i r + o) (y := mnI (w (13 + 4 * i + 2) + pCa T w i r + o) (w (13 + 4 * i + 1))) (by omega) (by omega)
    rw [pFa]
    refine ih (i + 1) _ _ (by omega) (hO_set (hO_o hn h (by omega)) q.1 ?_) ?_ ?_
    · rw [wS_miss (by omega)]; exact q.2.1
    · omega
    · omega
theorem pLo_B (hn : n ≤ 8) : ∀ (k i : Nat) (w : Nat → Int32), i + k = n → (∀ i, i < n → btB w i) → ∀ q, q < n → btB (pLo T k i w) q := by
  intro k
  induction k with
  | zero =>
    intro i w hk h
    exact h
  | succ k ih =>
    intro i w hk h
    obtain ⟨a1, a2, a3, a4, a5, a6, a7⟩ := h i (by omega)
    have c := pLs_B (T := T) a4
    have e4 := sub_toInt (x := w (13 + 4 * i + 2)) (y := pLs T w i) (by omega) (by omega)
    rw [pLo]
    exact ih (i + 1) _ (by omega) (hO_o hn (hO_set h (by omega) (by omega)) (by omega))
theorem pDb_B (h : btB w i) : 0 ≤ (pDb w i).toInt ∧ (pDb w i).toInt ≤ (w (13 + 4 * i + 2)).toInt := by
  obtain ⟨a1, a2, a3, a4, a5, a6, a7⟩ := h
  have e0 : (nI 0).toInt = 0 := nI_toInt (by omega)
  unfold pDb
  rw [mx_toInt, sub_toInt (by omega) (by omega), e0]
  split <;> omega
theorem pDr_B : ∀ (k i : Nat) (w : Nat → Int32) (mi : Int32), i + k = n → (∀ i, i < n → btB w i) → 0 ≤ mi.toInt → (∀ q, q < n → btB (pDr k i w mi).1 q) ∧ 0 ≤ (pDr k i w mi).2.toInt ∧ (pDr k i w mi).2.toInt ≤ mi.toInt := by
  intro k
  induction k with
  | zero =>
    intro i w mi hk h h0
    exact ⟨h, h0, Int.le_refl _⟩
  | succ k ih =>
    intro i w mi hk h h0
    have hb := h i (by omega)
    have c := pDb_B hb
    obtain ⟨a1, a2, a3, a4, a5, a6, a7⟩ := hb
    have e3 : (mnI mi (pDb w i)).toInt = if (pDb w i).toInt < mi.toInt then (pDb w i).toInt else mi.toInt := mn_toInt
    have q : 0 ≤ (mnI mi (pDb w i)).toInt ∧ (mnI mi (pDb w i)).toInt ≤ mi.toInt ∧ (mnI mi (pDb w i)).toInt ≤ (pDb w i).toInt := by
      rw [e3]
      split <;> omega
    have hh := hi_toInt mi
    have e4 := sub_toInt (x := w (13 + 4 * i + 2)) (y := mnI mi (pDb w i)) (by omega) (by omega)
    have e5 := sub_toInt (x := mi) (y := mnI mi (pDb w i)) (by omega) (by omega)
    rw [pDr]
    obtain ⟨b1, b2, b3⟩ := ih (i + 1) (wS w (13 + 4 * i + 2) (w (13 + 4 * i + 2) - mnI mi (pDb w i))) (mi - mnI mi (pDb w i)) (by omega) (hO_set h (by omega) (by omega)) (by omega)
    exact ⟨b1, b2, by omega⟩
theorem pBo_B (h : 0 ≤ x.toInt) : 0 ≤ (x - pBo w x).toInt ∧ (x - pBo w x).toInt ≤ x.toInt := by
  have e0 : (nI 0).toInt = 0 := nI_toInt (by omega)
  have hh := hi_toInt x
  unfold pBo
  split
  · rw [sub_toInt (by omega) (by omega)]; omega
  · rw [sub_toInt (by omega) (by omega), e0]; omega
theorem pWa_B (hn : n ≤ 8) (hj : j < 8) (h : ∀ i, i < n → btB w i) (h1 : 0 ≤ (w (45 + 3 * j + 0)).toInt) (h2 : (w (45 + 3 * j + 0)).toInt ≤ 99) (h3 : 0 ≤ (w (45 + 3 * j + 2)).toInt) (h4 : (w (45 + 3 * j + 2)).toInt ≤ 3000000) : (∀ i, i < n → btB (pWa n w j) i) ∧ (w (45 + 3 * j + 2)).toInt ≤ (pWa n w j (45 + 3 * j + 2)).toInt ∧ (pWa n w j (45 + 3 * j + 2)).toInt ≤ (w (45 + 3 * j + 2)).toInt + 99 := by
  obtain ⟨b1, b2, b3⟩ := pDr_B (n := n) n 0 w (w (45 + 3 * j + 0)) (by omega) h h1
  have k2 : (pDr n 0 w (w (45 + 3 * j + 0))).1 (45 + 3 * j + 2) = w (45 + 3 * j + 2) := pDr_keep (by omega) _ _ _ _ (by omega)
  unfold pWa
  generalize hq : pDr n 0 w (w (45 + 3 * j + 0)) = q at b1 b2 b3 k2 ⊢
  obtain ⟨q1, q2⟩ := q
  dsimp only at b1 b2 b3 k2 ⊢
  have c := pBo_B (w := q1) b2
  unfold pW3
  refine ⟨hO_o hn (hO_o hn (hO_o hn b1 (by omega)) (by omega)) (by omega), ?_⟩
  rw [wS_hit rfl, k2, add_toInt (by omega) (by omega)]
  omega
theorem pWb_B (hn : n ≤ 8) (hm : m ≤ 8) : ∀ (k j : Nat) (w : Nat → Int32), j + k = m → (∀ i, i < n → btB w i) → (∀ b, j ≤ b → b < m → 0 ≤ (w (45 + 3 * b + 0)).toInt ∧ (w (45 + 3 * b + 0)).toInt ≤ 99 ∧ 0 ≤ (w (45 + 3 * b + 2)).toInt ∧ (w (45 + 3 * b + 2)).toInt ≤ 3000000) → (∀ i, i < n → btB (pWb n k j w) i) ∧ ∀ b, b < m → (b < j → pWb n k j w (45 + 3 * b + 2) = w (45 + 3 * b + 2)) ∧ (w (45 + 3 * b + 2)).toInt ≤ (pWb n k j w (45 + 3 * b + 2)).toInt ∧ (pWb n k j w (45 + 3 * b + 2)).toInt ≤ (w (45 + 3 * b + 2)).toInt + 99 := by
  intro k
  induction k with
  | zero =>
    intro j w hk h hb
    exact ⟨h, fun b hb => ⟨fun _ => rfl, Int.le_refl _, by rw [pWb]; omega⟩⟩
  | succ k ih =>
    intro j w hk h hb
    obtain ⟨a1, a2, a3, a4⟩ := hb j (by omega) (by omega)
    obtain ⟨c1, c2, c3⟩ := pWa_B hn (show j < 8 by omega) h a1 a2 a3 a4
    have k0 : ∀ b, b < m → pWa n w j (45 + 3 * b + 0) = w (45 + 3 * b + 0) := fun b hb => pWa_keep hn (by omega) (by omega) (by omega)
    have k2 : ∀ b, b < m → b ≠ j → pWa n w j (45 + 3 * b + 2) = w (45 + 3 * b + 2) := fun b hb hne => pWa_keep hn (by omega) (by omega) (by omega)
    obtain ⟨d1, d2⟩ := ih (j + 1) (pWa n w j) (by omega) c1 (fun b hb1 hb2 => by rw [k0 b hb2, k2 b hb2 (by omega)]; exact hb b (by omega) hb2)
    rw [pWb]
    refine ⟨d1, fun b hbm => ?_⟩
    obtain ⟨e1, e2, e3⟩ := d2 b hbm
    by_cases hbj : b = j
    · subst hbj
      rw [e1 (by omega)]
      exact ⟨fun y => absurd y (by omega), c2, c3⟩
    · rw [k2 b hbm hbj] at e1 e2 e3
      exact ⟨fun y => e1 (by omega), e2, e3⟩
theorem day_B (hr : r ≤ 9) (h : gB w n m D) (hD : D ≤ 20000) : (∀ i, i < n → btB (wS (pWb n m 0 (pLo T n 0 (pFa T r n 0 (wS (wS w 5 x) 0 z) (nI 0)).1)) 1 (w 1 + nI 1)) i) ∧ (∀ j, j < m → bdB (wS (pWb n m 0 (pLo T n 0 (pFa T r n 0 (wS (wS w 5 x) 0 z) (nI 0)).1)) 1 (w 1 + nI 1)) j) ∧ (∀ j, j < m → (w (45 + 3 * j + 2)).toInt ≤ (wS (pWb n m 0 (pLo T n 0 (pFa T r n 0 (wS (wS w 5 x) 0 z) (nI 0)).1)) 1 (w 1 + nI 1) (45 + 3 * j + 2)).toInt) := by
  obtain ⟨⟨hn, hm, h3, h4, h5⟩, hb, hd, h1, h2⟩ := h
  have e0 : (nI 0).toInt = 0 := nI_toInt (by omega)
  have e1 : (nI 1).toInt = 1 := nI_toInt (by omega)
  have b1 : ∀ i, i < n → btB (wS (wS w 5 x) 0 z) i := hO_o hn (hO_o hn hb (by omega)) (by omega)
  have b2 := pFa_B (T := T) hr hn n 0 (wS (wS w 5 x) 0 z) (nI 0) (by omega) b1 (by omega) (by omega)
  have b3 := pLo_B (T := T) hn n 0 _ (by omega) b2
  have kk : ∀ b, b < m → ∀ o, o = 45 + 3 * b + 0 ∨ o = 45 + 3 * b + 2 → pLo T n 0 (pFa T r n 0 (wS (wS w 5 x) 0 z) (nI 0)).1 o = w o := by
    intro b hb o ho
    rw [pLo_keep (by omega) (by omega) _ _ _ (by omega), pFa_keep (by omega) (by omega) (by omega) _ _ _ _ (by omega), wS_miss (by omega), wS_miss (by omega)]
  generalize pLo T n 0 (pFa T r n 0 (wS (wS w 5 x) 0 z) (nI 0)).1 = v at b3 kk ⊢
  obtain ⟨c1, c2⟩ := pWb_B hn hm m 0 v (by omega) b3 (fun b _ hbm => by
    rw [kk b hbm _ (.inl rfl), kk b hbm _ (.inr rfl)]
    have q := hd b hbm
    unfold bdB at q
    omega)
  have ed : (w 1 + nI 1).toInt = (w 1).toInt + 1 := by rw [add_toInt (by omega) (by omega), e1]
  refine ⟨hO_o hn c1 (by omega), fun j hj => ?_, fun j hj => ?_⟩
  · obtain ⟨-, d2, d3⟩ := c2 j hj
    have q := hd j hj
    unfold bdB at q ⊢
    rw [kk j hj _ (.inr rfl)] at d2 d3
    rw [wS_miss (by omega), wS_miss (by omega), wS_hit rfl, ed, pWb_keep hn (by omega) (by omega) (by omega) _ _ _ (by omega), kk j hj _ (.inl rfl)]
    omega
  · obtain ⟨-, d2, d3⟩ := c2 j hj
    rw [kk j hj _ (.inr rfl)] at d2
    rw [wS_miss (by omega)]
    exact d2
theorem pDay_B (h : gB w n m D) (hD : D ≤ 20000) : gB (pDay T n m w) n m (D + 1) ∧ ∀ j, j < m → (w (45 + 3 * j + 2)).toInt ≤ (pDay T n m w (45 + 3 * j + 2)).toInt := by
  have e1 : (nI 1).toInt = 1 := nI_toInt (by omega)
  have h1 := h.2.2.2.1
  have h2 := h.2.2.2.2
  have ed : (pDay T n m w 1).toInt = (w 1).toInt + 1 := by rw [pDay_1, add_toInt (by omega) (by omega), e1]
  have q : (∀ i, i < n → btB (pDay T n m w) i) ∧ (∀ j, j < m → bdB (pDay T n m w) j) ∧ ∀ j, j < m → (w (45 + 3 * j + 2)).toInt ≤ (pDay T n m w (45 + 3 * j + 2)).toInt := by
    unfold pDay
    split
    · exact day_B pRr_le h hD
    · exact day_B (show 0 ≤ 9 by omega) h hD
  exact ⟨⟨gOK_day h.1, q.1, q.2.1, by omega, by omega⟩, q.2.2⟩
theorem pDays_B : ∀ (k : Nat) {w : Nat → Int32} {D : Nat}, gB w n m D → D + k ≤ 20000 → gB (pDays T n m k w) n m (D + k) ∧ ∀ j, j < m → (w (45 + 3 * j + 2)).toInt ≤ (pDays T n m k w (45 + 3 * j + 2)).toInt := by
  intro k
  induction k with
  | zero => intro w D h _; exact ⟨h, fun _ _ => Int.le_refl _⟩
  | succ k ih =>
    intro w D h hD
    obtain ⟨h1, h2⟩ := pDay_B (T := T) h (by omega)
    obtain ⟨h3, h4⟩ := ih (D := D + 1) h1 (by omega)
    rw [pDays]
    refine ⟨?_, fun j hj => Int.le_trans (h2 j hj) (h4 j hj)⟩
    rw [show D + (k + 1) = D + 1 + k by omega]
    exact h3
theorem sumF_mono {f f' : Nat → Int32} {B : Nat} : ∀ (k i : Nat) (s s' : Int32) (c : Nat), (∀ j, j < i + k → 0 ≤ (f j).toInt ∧ (f j).toInt ≤ (f' j).toInt ∧ (f' j).toInt ≤ B) → 0 ≤ s.toInt → s.toInt ≤ s'.toInt → s'.toInt ≤ c → c + k * B < 2147483648 → (sumF f k i s).toInt ≤ (sumF f' k i s').toInt ∧ 0 ≤ (sumF f k i s).toInt ∧ (sumF f' k i s').toInt ≤ c + k * B := by
  intro k
  induction k with
  | zero => intro i s s' c h h0 h1 h2 h3; rw [sumF, sumF]; omega
  | succ k ih =>
    intro i s s' c h h0 h1 h2 h3
    obtain ⟨a1, a2, a3⟩ := h i (by omega)
    have hk : (k + 1) * B = k * B + B := Nat.succ_mul k B
    have q1 := add_toInt (x := s) (y := f i) (by omega) (by omega)
    have q2 := add_toInt (x := s') (y := f' i) (by omega) (by omega)
    rw [sumF, sumF]
    obtain ⟨b1, b2, b3⟩ := ih (i + 1) (s + f i) (s' + f' i) (c + B) (fun j hj => h j (by omega)) (by omega) (by omega) (by omega) (by omega)
    omega
theorem pLk_mono {w' : Nat → Int32} {D' : Nat} (h : gB w n m D) (h' : gB w' n m D') (hD : D' ≤ 20000) (hl : ∀ j, j < m → (w (45 + 3 * j + 2)).toInt ≤ (w' (45 + 3 * j + 2)).toInt) : (pLk w m).toInt ≤ (pLk w' m).toInt := by
  have e0 : (nI 0).toInt = 0 := nI_toInt (by omega)
  have hm := h.1.2.1
  exact (sumF_mono (B := 2000000) m 0 (nI 0) (nI 0) 0 (fun j hj => by
    have q := h.2.2.1 j (by omega)
    have q' := h'.2.2.1 j (by omega)
    have q2 := h'.2.2.2.2
    have l := hl j (by omega)
    unfold bdB at q q'
    omega) (by omega) (by omega) (by omega) (by omega)).1
theorem pDays_add : ∀ (a b : Nat) (w : Nat → Int32), pDays T n m (a + b) w = pDays T n m b (pDays T n m a w) := by
  intro a
  induction a with
  | zero => intro b w; rw [Nat.zero_add, pDays]
  | succ a ih => intro b w; rw [show a + 1 + b = (a + b) + 1 by omega, pDays, pDays, ih]
end C25
