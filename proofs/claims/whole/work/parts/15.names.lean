-- names of cells, what stands in their fields and places
def zGC (g : Nat) : Nat := if g < 3 then 22 + 20 * g else 0
theorem nf_zGC {g : Nat} : (zGC g = 10050) = False := by
  simp only [eq_iff_iff, iff_false]
  unfold zGC
  split <;> omega
def zBA (g : Nat) : Nat := if g < 3 then 23 + 20 * g else 0
theorem nf_zBA {g : Nat} : (zBA g = 10050) = False := by
  simp only [eq_iff_iff, iff_false]
  unfold zBA
  split <;> omega
def zDA (g : Nat) : Nat := if g < 3 then 24 + 20 * g else 0
theorem nf_zDA {g : Nat} : (zDA g = 10050) = False := by
  simp only [eq_iff_iff, iff_false]
  unfold zDA
  split <;> omega
def zCA (g : Nat) : Nat := if g < 3 then 25 + 20 * g else 0
theorem nf_zCA {g : Nat} : (zCA g = 10050) = False := by
  simp only [eq_iff_iff, iff_false]
  unfold zCA
  split <;> omega
def zBC (g i : Nat) : Nat := if g < 3 ∧ i < 8 then 26 + 20 * g + i else 0
theorem nf_zBC {g i : Nat} : (zBC g i = 10050) = False := by
  simp only [eq_iff_iff, iff_false]
  unfold zBC
  split <;> omega
def zDC (g i : Nat) : Nat := if g < 3 ∧ i < 8 then 34 + 20 * g + i else 0
theorem nf_zDC {g i : Nat} : (zDC g i = 10050) = False := by
  simp only [eq_iff_iff, iff_false]
  unfold zDC
  split <;> omega
def zSC (s : Nat) : Nat := if s < 4 then 88 + 2 * s else 0
theorem nf_zSC {s : Nat} : (zSC s = 10050) = False := by
  simp only [eq_iff_iff, iff_false]
  unfold zSC
  split <;> omega
def zSP (s : Nat) : Nat := if s < 4 then 89 + 2 * s else 0
theorem nf_zSP {s : Nat} : (zSP s = 10050) = False := by
  simp only [eq_iff_iff, iff_false]
  unfold zSP
  split <;> omega
def zLC (s : Nat) : Nat := if s < 5 then 96 + 4 * s else 0
theorem nf_zLC {s : Nat} : (zLC s = 10050) = False := by
  simp only [eq_iff_iff, iff_false]
  unfold zLC
  split <;> omega
def zLB (s : Nat) : Nat := if s < 5 then 97 + 4 * s else 0
theorem nf_zLB {s : Nat} : (zLB s = 10050) = False := by
  simp only [eq_iff_iff, iff_false]
  unfold zLB
  split <;> omega
def zLS (s : Nat) : Nat := if s < 5 then 98 + 4 * s else 0
theorem nf_zLS {s : Nat} : (zLS s = 10050) = False := by
  simp only [eq_iff_iff, iff_false]
  unfold zLS
  split <;> omega
def zLP (s : Nat) : Nat := if s < 5 then 99 + 4 * s else 0
theorem nf_zLP {s : Nat} : (zLP s = 10050) = False := by
  simp only [eq_iff_iff, iff_false]
  unfold zLP
  split <;> omega
def zTR (t : Nat) : Nat := if t < 15 then 3 + t else 0
theorem nf_zTR {t : Nat} : (zTR t = 10050) = False := by
  simp only [eq_iff_iff, iff_false]
  unfold zTR
  split <;> omega
theorem nf_S {k : Nat} (hk : k < 7) : (10030 + k = 10050) = False := by
  simp only [eq_iff_iff, iff_false]
  omega
def gt_feq (a b : Value ⊕ Nat) : Bool := match a, b with
  | .inl v, .inl w => decide (v = w)
  | .inr j, .inr k => j == k
  | _, _ => false
def gt_fleq : List (Value ⊕ Nat) → List (Value ⊕ Nat) → Bool
  | [], [] => true
  | a :: l, b :: m => gt_feq a b && gt_fleq l m
  | _, _ => false
theorem gt_feq_ok {a b : Value ⊕ Nat} (h : gt_feq a b = true) : a = b := by
  unfold gt_feq at h
  split at h
  · rw [of_decide_eq_true h]
  · rw [beq_iff_eq.mp h]
  · cases h
theorem gt_fleq_ok : ∀ {a b : List (Value ⊕ Nat)}, gt_fleq a b = true → a = b
  | [], [], _ => rfl
  | a :: l, b :: m, h => by
    simp only [gt_fleq, Bool.and_eq_true] at h
    rw [gt_feq_ok h.1, gt_fleq_ok h.2]
  | [], b :: m, h => by cases h
  | a :: l, [], h => by cases h
def gt_deq (a b : gt_D) : Bool := match a, b with
  | .inl (c, b1, o, fs), .inl (c', b2, o', fs') => c == c' && (b1 == b2 && (o == o' && gt_fleq fs fs'))
  | .inr (.inl q), .inr (.inl r) => decide (q = r)
  | .inr (.inr (t, rs)), .inr (.inr (t', rs')) => t == t' && decide (rs = rs')
  | _, _ => false
theorem gt_deq_ok {a b : gt_D} (h : gt_deq a b = true) : a = b := by
  unfold gt_deq at h
  split at h
  · simp only [Bool.and_eq_true, beq_iff_eq] at h
    obtain ⟨rfl, rfl, rfl, h⟩ := h
    rw [gt_fleq_ok h]
  · rw [of_decide_eq_true h]
  · simp only [Bool.and_eq_true, beq_iff_eq, decide_eq_true_eq] at h
    rw [h.1, h.2]
  · cases h
def gt_ist (x : Option gt_D) (q : gt_D) : Bool := match x with
  | some r => gt_deq r q
  | none => false
theorem gt_ist_ok {x : Option gt_D} {q : gt_D} (h : gt_ist x q = true) : x = some q := by
  unfold gt_ist at h
  split at h
  · rw [gt_deq_ok h]
  · cases h
theorem gt_acp {u : gt_M} {k1 k2 b1 o1 n1 b2 o2 n2 s t n : Nat} (h1 : gt_t[k1]? = some (.inr (.inl (b1, o1, n1)))) (h2 : gt_t[k2]? = some (.inr (.inl (b2, o2, n2)))) (hs : s + n ≤ n1) (ht : t + n ≤ n2) (l1 : n1 < 2 ^ 31) (l2 : n2 < 2 ^ 31) : gm_acp (gt_h u) k1 (nI s) k2 (nI t) (nI n) = some (gt_h (gt_cpy u b1 (o1 + s) b2 (o2 + t) n)) := by
  unfold gm_acp
  rw [if_pos ⟨gt_lt h1, gt_lt h2⟩, gt_get h1, gt_get h2]
  show (if (0 : Nat) = 0 ∧ (0 : Nat) = 0 ∧ ¬ nI s < 0 ∧ ¬ nI t < 0 ∧ ¬ nI n < 0 ∧ (nI s).toNatClampNeg + (nI n).toNatClampNeg ≤ ((List.range n1).map (fun k => u b1 (o1 + k))).length ∧ (nI t).toNatClampNeg + (nI n).toNatClampNeg ≤ ((List.range n2).map (fun k => u b2 (o2 + k))).length then some ((gt_h u).set k2 (.inl (0, .inl (gm_cpy ((List.range n1).map (fun k => u b1 (o1 + k))) ((List.range n2).map (fun k => u b2 (o2 + k))) (nI s).toNatClampNeg (nI t).toNatClampNeg (nI n).toNatClampNeg)))) else none) = _
  rw [nI_clamp (by omega), nI_clamp (by omega), nI_clamp (by omega), List.length_map, List.length_range, List.length_map, List.length_range]
  rw [if_pos ⟨rfl, rfl, nI_pos (by omega), nI_pos (by omega), nI_pos (by omega), hs, ht⟩]
  have e1 : (.inl (0, .inl (gm_cpy ((List.range n1).map (fun k => u b1 (o1 + k))) ((List.range n2).map (fun k => u b2 (o2 + k))) s t n)) : gm_E) = gt_in (gt_cpy u b1 (o1 + s) b2 (o2 + t) n) (.inr (.inl (b2, o2, n2))) := by
    show _ = (.inl (0, .inl ((List.range n2).map (fun k => gt_cpy u b1 (o1 + s) b2 (o2 + t) n b2 (o2 + k)))) : gm_E)
    unfold gm_cpy
    rw [List.length_map, List.length_range]
    congr 3
    apply List.map_congr_left
    intro k hk
    have hk := List.mem_range.mp hk
    unfold gt_cpy
    by_cases hc : t ≤ k ∧ k < t + n
    · rw [if_pos hc, if_pos ⟨rfl, by omega, by omega⟩, gt_row _ _ _ _ _ (by omega)]
      congr 1
      omega
    · rw [if_neg hc, if_neg (by omega), gt_row _ _ _ _ _ hk]
  rw [e1, gt_upd (u := u) (u' := gt_cpy u b1 (o1 + s) b2 (o2 + t) n) h2 (fun b' x' hx => if_neg (fun y => hx ⟨y.1.symm, by show o2 ≤ x'; omega, by show x' < o2 + n2; omega⟩))]
theorem t_zGC : ∀ g, g < 3 → gt_t[zGC g]? = some (.inl (2, g, 0, [.inl (.ref 1), .inl (.ref (zBA g)), .inl (.ref (zDA g)), .inl (.ref (zCA g)), .inr 10, .inr 11, .inr 12, .inr 2, .inr 3, .inr 4, .inr 5, .inr 6, .inr 7, .inr 8, .inr 9, .inr 1, .inr 0])) := by
  have y : ∀ g, g < 3 → gt_ist gt_t[zGC g]? (.inl (2, g, 0, [.inl (.ref 1), .inl (.ref (zBA g)), .inl (.ref (zDA g)), .inl (.ref (zCA g)), .inr 10, .inr 11, .inr 12, .inr 2, .inr 3, .inr 4, .inr 5, .inr 6, .inr 7, .inr 8, .inr 9, .inr 1, .inr 0])) = true := by decide +kernel
  intro g hg
  exact gt_ist_ok (y g hg)
theorem t_zBA : ∀ g, g < 3 → gt_t[zBA g]? = some (.inr (.inr (1, (List.range 8).map (fun i => some (zBC g i))))) := by
  have y : ∀ g, g < 3 → gt_ist gt_t[zBA g]? (.inr (.inr (1, (List.range 8).map (fun i => some (zBC g i))))) = true := by decide +kernel
  intro g hg
  exact gt_ist_ok (y g hg)
theorem t_zDA : ∀ g, g < 3 → gt_t[zDA g]? = some (.inr (.inr (2, (List.range 8).map (fun i => some (zDC g i))))) := by
  have y : ∀ g, g < 3 → gt_ist gt_t[zDA g]? (.inr (.inr (2, (List.range 8).map (fun i => some (zDC g i))))) = true := by decide +kernel
  intro g hg
  exact gt_ist_ok (y g hg)
theorem t_zCA : ∀ g, g < 3 → gt_t[zCA g]? = some (.inr (.inl (g, 69, 3))) := by
  have y : ∀ g, g < 3 → gt_ist gt_t[zCA g]? (.inr (.inl (g, 69, 3))) = true := by decide +kernel
  intro g hg
  exact gt_ist_ok (y g hg)
theorem t_zBC : ∀ g, g < 3 → ∀ i, i < 8 → gt_t[zBC g i]? = some (.inl (1, g, 13 + 4 * i, [.inr 0, .inr 1, .inr 2, .inr 3])) := by
  have y : ∀ g, g < 3 → ∀ i, i < 8 → gt_ist gt_t[zBC g i]? (.inl (1, g, 13 + 4 * i, [.inr 0, .inr 1, .inr 2, .inr 3])) = true := by decide +kernel
  intro g hg i hi
  exact gt_ist_ok (y g hg i hi)
theorem t_zDC : ∀ g, g < 3 → ∀ i, i < 8 → gt_t[zDC g i]? = some (.inl (0, g, 45 + 3 * i, [.inr 0, .inr 1, .inr 2])) := by
  have y : ∀ g, g < 3 → ∀ i, i < 8 → gt_ist gt_t[zDC g i]? (.inl (0, g, 45 + 3 * i, [.inr 0, .inr 1, .inr 2])) = true := by decide +kernel
  intro g hg i hi
  exact gt_ist_ok (y g hg i hi)
theorem t_zSC : ∀ s, s < 4 → gt_t[zSC s]? = some (.inl (4, 12 + s, 0, [.inl (.ref (zSP s)), .inr 0, .inr 1])) := by
  have y : ∀ s, s < 4 → gt_ist gt_t[zSC s]? (.inl (4, 12 + s, 0, [.inl (.ref (zSP s)), .inr 0, .inr 1])) = true := by decide +kernel
  intro s hs
  exact gt_ist_ok (y s hs)
theorem t_zSP : ∀ s, s < 4 → gt_t[zSP s]? = some (.inr (.inl (12 + s, 2, 24))) := by
  have y : ∀ s, s < 4 → gt_ist gt_t[zSP s]? (.inr (.inl (12 + s, 2, 24))) = true := by decide +kernel
  intro s hs
  exact gt_ist_ok (y s hs)
theorem t_zLC : ∀ s, s < 5 → gt_t[zLC s]? = some (.inl (5, 16 + s, 0, [.inl (.ref (zLB s)), .inl (.ref (zLS s)), .inr 0, .inr 1])) := by
  have y : ∀ s, s < 5 → gt_ist gt_t[zLC s]? (.inl (5, 16 + s, 0, [.inl (.ref (zLB s)), .inl (.ref (zLS s)), .inr 0, .inr 1])) = true := by decide +kernel
  intro s hs
  exact gt_ist_ok (y s hs)
theorem t_zLB : ∀ s, s < 5 → gt_t[zLB s]? = some (.inl (1, 16 + s, 2, [.inr 0, .inr 1, .inr 2, .inr 3])) := by
  have y : ∀ s, s < 5 → gt_ist gt_t[zLB s]? (.inl (1, 16 + s, 2, [.inr 0, .inr 1, .inr 2, .inr 3])) = true := by decide +kernel
  intro s hs
  exact gt_ist_ok (y s hs)
theorem t_zLS : ∀ s, s < 5 → gt_t[zLS s]? = some (.inl (4, 16 + s, 6, [.inl (.ref (zLP s)), .inr 0, .inr 1])) := by
  have y : ∀ s, s < 5 → gt_ist gt_t[zLS s]? (.inl (4, 16 + s, 6, [.inl (.ref (zLP s)), .inr 0, .inr 1])) = true := by decide +kernel
  intro s hs
  exact gt_ist_ok (y s hs)
theorem t_zLP : ∀ s, s < 5 → gt_t[zLP s]? = some (.inr (.inl (16 + s, 8, 24))) := by
  have y : ∀ s, s < 5 → gt_ist gt_t[zLP s]? (.inr (.inl (16 + s, 8, 24))) = true := by decide +kernel
  intro s hs
  exact gt_ist_ok (y s hs)
theorem t_zTR : ∀ t, t < 15 → gt_t[zTR t]? = some (.inr (.inl (21 + t, 0, 96))) := by
  have y : ∀ t, t < 15 → gt_ist gt_t[zTR t]? (.inr (.inl (21 + t, 0, 96))) = true := by decide +kernel
  intro t ht
  exact gt_ist_ok (y t ht)
section CELLS
variable {u : gt_M} {X : List Int32} {g i s t k : Nat} {x : Int32}
theorem f_zGC_0 (hg : g < 3) : gm_gf (gt_h u) (zGC g) 200 = some (.ref (1)) := by
  have y := gt_gf (u := u) (f := 200) (t_zGC _ hg) rfl rfl
  exact y
theorem f_zGC_1 (hg : g < 3) : gm_gf (gt_h u) (zGC g) 201 = some (.ref (zBA g)) := by
  have y := gt_gf (u := u) (f := 201) (t_zGC _ hg) rfl rfl
  exact y
theorem f_zGC_2 (hg : g < 3) : gm_gf (gt_h u) (zGC g) 202 = some (.ref (zDA g)) := by
  have y := gt_gf (u := u) (f := 202) (t_zGC _ hg) rfl rfl
  exact y
theorem f_zGC_3 (hg : g < 3) : gm_gf (gt_h u) (zGC g) 203 = some (.ref (zCA g)) := by
  have y := gt_gf (u := u) (f := 203) (t_zGC _ hg) rfl rfl
  exact y
theorem f_zGC_4 (hg : g < 3) : gm_gf (gt_h u) (zGC g) 204 = some (.int (u g 10)) := by
  have y := gt_gf (u := u) (f := 204) (t_zGC _ hg) rfl rfl
  exact y
theorem pf_zGC_4 (hg : g < 3) : gm_pf (gt_h u) (zGC g) 204 (.int x) = some (gt_h (gt_set u g 10 x)) := by
  have y := gt_pf (u := u) (x := x) (f := 204) (t_zGC _ hg) rfl rfl (by decide) rfl
  exact y
theorem f_zGC_5 (hg : g < 3) : gm_gf (gt_h u) (zGC g) 205 = some (.int (u g 11)) := by
  have y := gt_gf (u := u) (f := 205) (t_zGC _ hg) rfl rfl
  exact y
theorem pf_zGC_5 (hg : g < 3) : gm_pf (gt_h u) (zGC g) 205 (.int x) = some (gt_h (gt_set u g 11 x)) := by
  have y := gt_pf (u := u) (x := x) (f := 205) (t_zGC _ hg) rfl rfl (by decide) rfl
  exact y
theorem f_zGC_6 (hg : g < 3) : gm_gf (gt_h u) (zGC g) 206 = some (.int (u g 12)) := by
  have y := gt_gf (u := u) (f := 206) (t_zGC _ hg) rfl rfl
  exact y
theorem pf_zGC_6 (hg : g < 3) : gm_pf (gt_h u) (zGC g) 206 (.int x) = some (gt_h (gt_set u g 12 x)) := by
  have y := gt_pf (u := u) (x := x) (f := 206) (t_zGC _ hg) rfl rfl (by decide) rfl
  exact y
theorem f_zGC_7 (hg : g < 3) : gm_gf (gt_h u) (zGC g) 207 = some (.int (u g 2)) := by
  have y := gt_gf (u := u) (f := 207) (t_zGC _ hg) rfl rfl
  exact y
theorem pf_zGC_7 (hg : g < 3) : gm_pf (gt_h u) (zGC g) 207 (.int x) = some (gt_h (gt_set u g 2 x)) := by
  have y := gt_pf (u := u) (x := x) (f := 207) (t_zGC _ hg) rfl rfl (by decide) rfl
  exact y
theorem f_zGC_8 (hg : g < 3) : gm_gf (gt_h u) (zGC g) 208 = some (.int (u g 3)) := by
  have y := gt_gf (u := u) (f := 208) (t_zGC _ hg) rfl rfl
  exact y
theorem pf_zGC_8 (hg : g < 3) : gm_pf (gt_h u) (zGC g) 208 (.int x) = some (gt_h (gt_set u g 3 x)) := by
  have y := gt_pf (u := u) (x := x) (f := 208) (t_zGC _ hg) rfl rfl (by decide) rfl
  exact y
theorem f_zGC_9 (hg : g < 3) : gm_gf (gt_h u) (zGC g) 209 = some (.int (u g 4)) := by
  have y := gt_gf (u := u) (f := 209) (t_zGC _ hg) rfl rfl
  exact y
theorem pf_zGC_9 (hg : g < 3) : gm_pf (gt_h u) (zGC g) 209 (.int x) = some (gt_h (gt_set u g 4 x)) := by
  have y := gt_pf (u := u) (x := x) (f := 209) (t_zGC _ hg) rfl rfl (by decide) rfl
  exact y
theorem f_zGC_10 (hg : g < 3) : gm_gf (gt_h u) (zGC g) 210 = some (.int (u g 5)) := by
  have y := gt_gf (u := u) (f := 210) (t_zGC _ hg) rfl rfl
  exact y
theorem pf_zGC_10 (hg : g < 3) : gm_pf (gt_h u) (zGC g) 210 (.int x) = some (gt_h (gt_set u g 5 x)) := by
  have y := gt_pf (u := u) (x := x) (f := 210) (t_zGC _ hg) rfl rfl (by decide) rfl
  exact y
theorem f_zGC_11 (hg : g < 3) : gm_gf (gt_h u) (zGC g) 211 = some (.int (u g 6)) := by
  have y := gt_gf (u := u) (f := 211) (t_zGC _ hg) rfl rfl
  exact y
theorem pf_zGC_11 (hg : g < 3) : gm_pf (gt_h u) (zGC g) 211 (.int x) = some (gt_h (gt_set u g 6 x)) := by
  have y := gt_pf (u := u) (x := x) (f := 211) (t_zGC _ hg) rfl rfl (by decide) rfl
  exact y
theorem f_zGC_12 (hg : g < 3) : gm_gf (gt_h u) (zGC g) 212 = some (.int (u g 7)) := by
  have y := gt_gf (u := u) (f := 212) (t_zGC _ hg) rfl rfl
  exact y
theorem pf_zGC_12 (hg : g < 3) : gm_pf (gt_h u) (zGC g) 212 (.int x) = some (gt_h (gt_set u g 7 x)) := by
  have y := gt_pf (u := u) (x := x) (f := 212) (t_zGC _ hg) rfl rfl (by decide) rfl
  exact y
theorem f_zGC_13 (hg : g < 3) : gm_gf (gt_h u) (zGC g) 213 = some (.int (u g 8)) := by
  have y := gt_gf (u := u) (f := 213) (t_zGC _ hg) rfl rfl
  exact y
theorem pf_zGC_13 (hg : g < 3) : gm_pf (gt_h u) (zGC g) 213 (.int x) = some (gt_h (gt_set u g 8 x)) := by
  have y := gt_pf (u := u) (x := x) (f := 213) (t_zGC _ hg) rfl rfl (by decide) rfl
  exact y
theorem f_zGC_14 (hg : g < 3) : gm_gf (gt_h u) (zGC g) 214 = some (.int (u g 9)) := by
  have y := gt_gf (u := u) (f := 214) (t_zGC _ hg) rfl rfl
  exact y
theorem pf_zGC_14 (hg : g < 3) : gm_pf (gt_h u) (zGC g) 214 (.int x) = some (gt_h (gt_set u g 9 x)) := by
  have y := gt_pf (u := u) (x := x) (f := 214) (t_zGC _ hg) rfl rfl (by decide) rfl
  exact y
theorem f_zGC_15 (hg : g < 3) : gm_gf (gt_h u) (zGC g) 215 = some (.int (u g 1)) := by
  have y := gt_gf (u := u) (f := 215) (t_zGC _ hg) rfl rfl
  exact y
theorem pf_zGC_15 (hg : g < 3) : gm_pf (gt_h u) (zGC g) 215 (.int x) = some (gt_h (gt_set u g 1 x)) := by
  have y := gt_pf (u := u) (x := x) (f := 215) (t_zGC _ hg) rfl rfl (by decide) rfl
  exact y
theorem f_zGC_16 (hg : g < 3) : gm_gf (gt_h u) (zGC g) 216 = some (.int (u g 0)) := by
  have y := gt_gf (u := u) (f := 216) (t_zGC _ hg) rfl rfl
  exact y
theorem pf_zGC_16 (hg : g < 3) : gm_pf (gt_h u) (zGC g) 216 (.int x) = some (gt_h (gt_set u g 0 x)) := by
  have y := gt_pf (u := u) (x := x) (f := 216) (t_zGC _ hg) rfl rfl (by decide) rfl
  exact y
theorem f_zBC_0 (hg : g < 3) (hi : i < 8) : gm_gf (gt_h u) (zBC g i) 100 = some (.int (u g (13 + 4 * i + 0))) := by
  have y := gt_gf (u := u) (f := 100) (t_zBC _ hg _ hi) rfl rfl
  exact y
theorem pf_zBC_0 (hg : g < 3) (hi : i < 8) : gm_pf (gt_h u) (zBC g i) 100 (.int x) = some (gt_h (gt_set u g (13 + 4 * i + 0) x)) := by
  have y := gt_pf (u := u) (x := x) (f := 100) (t_zBC _ hg _ hi) rfl rfl (by decide) rfl
  exact y
theorem f_zBC_1 (hg : g < 3) (hi : i < 8) : gm_gf (gt_h u) (zBC g i) 101 = some (.int (u g (13 + 4 * i + 1))) := by
  have y := gt_gf (u := u) (f := 101) (t_zBC _ hg _ hi) rfl rfl
  exact y
theorem pf_zBC_1 (hg : g < 3) (hi : i < 8) : gm_pf (gt_h u) (zBC g i) 101 (.int x) = some (gt_h (gt_set u g (13 + 4 * i + 1) x)) := by
  have y := gt_pf (u := u) (x := x) (f := 101) (t_zBC _ hg _ hi) rfl rfl (by decide) rfl
  exact y
theorem f_zBC_2 (hg : g < 3) (hi : i < 8) : gm_gf (gt_h u) (zBC g i) 102 = some (.int (u g (13 + 4 * i + 2))) := by
  have y := gt_gf (u := u) (f := 102) (t_zBC _ hg _ hi) rfl rfl
  exact y
theorem pf_zBC_2 (hg : g < 3) (hi : i < 8) : gm_pf (gt_h u) (zBC g i) 102 (.int x) = some (gt_h (gt_set u g (13 + 4 * i + 2) x)) := by
  have y := gt_pf (u := u) (x := x) (f := 102) (t_zBC _ hg _ hi) rfl rfl (by decide) rfl
  exact y
theorem f_zBC_3 (hg : g < 3) (hi : i < 8) : gm_gf (gt_h u) (zBC g i) 103 = some (.int (u g (13 + 4 * i + 3))) := by
  have y := gt_gf (u := u) (f := 103) (t_zBC _ hg _ hi) rfl rfl
  exact y
theorem pf_zBC_3 (hg : g < 3) (hi : i < 8) : gm_pf (gt_h u) (zBC g i) 103 (.int x) = some (gt_h (gt_set u g (13 + 4 * i + 3) x)) := by
  have y := gt_pf (u := u) (x := x) (f := 103) (t_zBC _ hg _ hi) rfl rfl (by decide) rfl
  exact y
theorem f_zDC_0 (hg : g < 3) (hi : i < 8) : gm_gf (gt_h u) (zDC g i) 0 = some (.int (u g (45 + 3 * i + 0))) := by
  have y := gt_gf (u := u) (f := 0) (t_zDC _ hg _ hi) rfl rfl
  exact y
theorem pf_zDC_0 (hg : g < 3) (hi : i < 8) : gm_pf (gt_h u) (zDC g i) 0 (.int x) = some (gt_h (gt_set u g (45 + 3 * i + 0) x)) := by
  have y := gt_pf (u := u) (x := x) (f := 0) (t_zDC _ hg _ hi) rfl rfl (by decide) rfl
  exact y
theorem f_zDC_1 (hg : g < 3) (hi : i < 8) : gm_gf (gt_h u) (zDC g i) 1 = some (.int (u g (45 + 3 * i + 1))) := by
  have y := gt_gf (u := u) (f := 1) (t_zDC _ hg _ hi) rfl rfl
  exact y
theorem pf_zDC_1 (hg : g < 3) (hi : i < 8) : gm_pf (gt_h u) (zDC g i) 1 (.int x) = some (gt_h (gt_set u g (45 + 3 * i + 1) x)) := by
  have y := gt_pf (u := u) (x := x) (f := 1) (t_zDC _ hg _ hi) rfl rfl (by decide) rfl
  exact y
theorem f_zDC_2 (hg : g < 3) (hi : i < 8) : gm_gf (gt_h u) (zDC g i) 2 = some (.int (u g (45 + 3 * i + 2))) := by
  have y := gt_gf (u := u) (f := 2) (t_zDC _ hg _ hi) rfl rfl
  exact y
theorem pf_zDC_2 (hg : g < 3) (hi : i < 8) : gm_pf (gt_h u) (zDC g i) 2 (.int x) = some (gt_h (gt_set u g (45 + 3 * i + 2) x)) := by
  have y := gt_pf (u := u) (x := x) (f := 2) (t_zDC _ hg _ hi) rfl rfl (by decide) rfl
  exact y
theorem f_zSC_0 (hs : s < 4) : gm_gf (gt_h u) (zSC s) 400 = some (.ref (zSP s)) := by
  have y := gt_gf (u := u) (f := 400) (t_zSC _ hs) rfl rfl
  exact y
theorem f_zSC_1 (hs : s < 4) : gm_gf (gt_h u) (zSC s) 401 = some (.int (u (12 + s) 0)) := by
  have y := gt_gf (u := u) (f := 401) (t_zSC _ hs) rfl rfl
  exact y
theorem pf_zSC_1 (hs : s < 4) : gm_pf (gt_h u) (zSC s) 401 (.int x) = some (gt_h (gt_set u (12 + s) 0 x)) := by
  have y := gt_pf (u := u) (x := x) (f := 401) (t_zSC _ hs) rfl rfl (by decide) rfl
  exact y
theorem f_zSC_2 (hs : s < 4) : gm_gf (gt_h u) (zSC s) 402 = some (.int (u (12 + s) 1)) := by
  have y := gt_gf (u := u) (f := 402) (t_zSC _ hs) rfl rfl
  exact y
theorem pf_zSC_2 (hs : s < 4) : gm_pf (gt_h u) (zSC s) 402 (.int x) = some (gt_h (gt_set u (12 + s) 1 x)) := by
  have y := gt_pf (u := u) (x := x) (f := 402) (t_zSC _ hs) rfl rfl (by decide) rfl
  exact y
theorem f_zLC_0 (hs : s < 5) : gm_gf (gt_h u) (zLC s) 500 = some (.ref (zLB s)) := by
  have y := gt_gf (u := u) (f := 500) (t_zLC _ hs) rfl rfl
  exact y
theorem f_zLC_1 (hs : s < 5) : gm_gf (gt_h u) (zLC s) 501 = some (.ref (zLS s)) := by
  have y := gt_gf (u := u) (f := 501) (t_zLC _ hs) rfl rfl
  exact y
theorem f_zLC_2 (hs : s < 5) : gm_gf (gt_h u) (zLC s) 502 = some (.int (u (16 + s) 0)) := by
  have y := gt_gf (u := u) (f := 502) (t_zLC _ hs) rfl rfl
  exact y
theorem pf_zLC_2 (hs : s < 5) : gm_pf (gt_h u) (zLC s) 502 (.int x) = some (gt_h (gt_set u (16 + s) 0 x)) := by
  have y := gt_pf (u := u) (x := x) (f := 502) (t_zLC _ hs) rfl rfl (by decide) rfl
  exact y
theorem f_zLC_3 (hs : s < 5) : gm_gf (gt_h u) (zLC s) 503 = some (.int (u (16 + s) 1)) := by
  have y := gt_gf (u := u) (f := 503) (t_zLC _ hs) rfl rfl
  exact y
theorem pf_zLC_3 (hs : s < 5) : gm_pf (gt_h u) (zLC s) 503 (.int x) = some (gt_h (gt_set u (16 + s) 1 x)) := by
  have y := gt_pf (u := u) (x := x) (f := 503) (t_zLC _ hs) rfl rfl (by decide) rfl
  exact y
theorem f_zLB_0 (hs : s < 5) : gm_gf (gt_h u) (zLB s) 100 = some (.int (u (16 + s) 2)) := by
  have y := gt_gf (u := u) (f := 100) (t_zLB _ hs) rfl rfl
  exact y
theorem pf_zLB_0 (hs : s < 5) : gm_pf (gt_h u) (zLB s) 100 (.int x) = some (gt_h (gt_set u (16 + s) 2 x)) := by
  have y := gt_pf (u := u) (x := x) (f := 100) (t_zLB _ hs) rfl rfl (by decide) rfl
  exact y
theorem f_zLB_1 (hs : s < 5) : gm_gf (gt_h u) (zLB s) 101 = some (.int (u (16 + s) 3)) := by
  have y := gt_gf (u := u) (f := 101) (t_zLB _ hs) rfl rfl
  exact y
theorem pf_zLB_1 (hs : s < 5) : gm_pf (gt_h u) (zLB s) 101 (.int x) = some (gt_h (gt_set u (16 + s) 3 x)) := by
  have y := gt_pf (u := u) (x := x) (f := 101) (t_zLB _ hs) rfl rfl (by decide) rfl
  exact y
theorem f_zLB_2 (hs : s < 5) : gm_gf (gt_h u) (zLB s) 102 = some (.int (u (16 + s) 4)) := by
  have y := gt_gf (u := u) (f := 102) (t_zLB _ hs) rfl rfl
  exact y
theorem pf_zLB_2 (hs : s < 5) : gm_pf (gt_h u) (zLB s) 102 (.int x) = some (gt_h (gt_set u (16 + s) 4 x)) := by
  have y := gt_pf (u := u) (x := x) (f := 102) (t_zLB _ hs) rfl rfl (by decide) rfl
  exact y
theorem f_zLB_3 (hs : s < 5) : gm_gf (gt_h u) (zLB s) 103 = some (.int (u (16 + s) 5)) := by
  have y := gt_gf (u := u) (f := 103) (t_zLB _ hs) rfl rfl
  exact y
theorem pf_zLB_3 (hs : s < 5) : gm_pf (gt_h u) (zLB s) 103 (.int x) = some (gt_h (gt_set u (16 + s) 5 x)) := by
  have y := gt_pf (u := u) (x := x) (f := 103) (t_zLB _ hs) rfl rfl (by decide) rfl
  exact y
theorem f_zLS_0 (hs : s < 5) : gm_gf (gt_h u) (zLS s) 400 = some (.ref (zLP s)) := by
  have y := gt_gf (u := u) (f := 400) (t_zLS _ hs) rfl rfl
  exact y
theorem f_zLS_1 (hs : s < 5) : gm_gf (gt_h u) (zLS s) 401 = some (.int (u (16 + s) 6)) := by
  have y := gt_gf (u := u) (f := 401) (t_zLS _ hs) rfl rfl
  exact y
theorem pf_zLS_1 (hs : s < 5) : gm_pf (gt_h u) (zLS s) 401 (.int x) = some (gt_h (gt_set u (16 + s) 6 x)) := by
  have y := gt_pf (u := u) (x := x) (f := 401) (t_zLS _ hs) rfl rfl (by decide) rfl
  exact y
theorem f_zLS_2 (hs : s < 5) : gm_gf (gt_h u) (zLS s) 402 = some (.int (u (16 + s) 7)) := by
  have y := gt_gf (u := u) (f := 402) (t_zLS _ hs) rfl rfl
  exact y
theorem pf_zLS_2 (hs : s < 5) : gm_pf (gt_h u) (zLS s) 402 (.int x) = some (gt_h (gt_set u (16 + s) 7 x)) := by
  have y := gt_pf (u := u) (x := x) (f := 402) (t_zLS _ hs) rfl rfl (by decide) rfl
  exact y
theorem k_zGC (hg : g < 3) : gm_cls (gt_h u) (zGC g) = 2 := gt_cls (t_zGC _ hg)
theorem k_zBC (hg : g < 3) (hi : i < 8) : gm_cls (gt_h u) (zBC g i) = 1 := gt_cls (t_zBC _ hg _ hi)
theorem k_zDC (hg : g < 3) (hi : i < 8) : gm_cls (gt_h u) (zDC g i) = 0 := gt_cls (t_zDC _ hg _ hi)
theorem k_zSC (hs : s < 4) : gm_cls (gt_h u) (zSC s) = 4 := gt_cls (t_zSC _ hs)
theorem k_zLC (hs : s < 5) : gm_cls (gt_h u) (zLC s) = 5 := gt_cls (t_zLC _ hs)
theorem k_zLB (hs : s < 5) : gm_cls (gt_h u) (zLB s) = 1 := gt_cls (t_zLB _ hs)
theorem k_zLS (hs : s < 5) : gm_cls (gt_h u) (zLS s) = 4 := gt_cls (t_zLS _ hs)
theorem t_c0 : gt_t[0]? = some (.inl (8, 10, 0, [.inl (.ref 1), .inl (.ref (zGC 0)), .inl (.ref (zGC 1)), .inl (.ref (zGC 2)), .inl (.ref 82), .inl (.ref 84), .inl (.ref 85), .inl (.ref 86), .inl (.ref 87), .inr 0, .inr 1])) := gt_ist_ok (by decide +kernel)
theorem f_0_0  : gm_gf (gt_h u) (0) 800 = some (.ref (1)) := by
  have y := gt_gf (u := u) (f := 800) (t_c0) rfl rfl
  exact y
theorem f_0_1  : gm_gf (gt_h u) (0) 801 = some (.ref (zGC 0)) := by
  have y := gt_gf (u := u) (f := 801) (t_c0) rfl rfl
  exact y
theorem f_0_2  : gm_gf (gt_h u) (0) 802 = some (.ref (zGC 1)) := by
  have y := gt_gf (u := u) (f := 802) (t_c0) rfl rfl
  exact y
theorem f_0_3  : gm_gf (gt_h u) (0) 803 = some (.ref (zGC 2)) := by
  have y := gt_gf (u := u) (f := 803) (t_c0) rfl rfl
  exact y
theorem f_0_4  : gm_gf (gt_h u) (0) 804 = some (.ref (82)) := by
  have y := gt_gf (u := u) (f := 804) (t_c0) rfl rfl
  exact y
theorem f_0_5  : gm_gf (gt_h u) (0) 805 = some (.ref (84)) := by
  have y := gt_gf (u := u) (f := 805) (t_c0) rfl rfl
  exact y
theorem f_0_6  : gm_gf (gt_h u) (0) 806 = some (.ref (85)) := by
  have y := gt_gf (u := u) (f := 806) (t_c0) rfl rfl
  exact y
theorem f_0_7  : gm_gf (gt_h u) (0) 807 = some (.ref (86)) := by
  have y := gt_gf (u := u) (f := 807) (t_c0) rfl rfl
  exact y
theorem f_0_8  : gm_gf (gt_h u) (0) 808 = some (.ref (87)) := by
  have y := gt_gf (u := u) (f := 808) (t_c0) rfl rfl
  exact y
theorem f_0_9  : gm_gf (gt_h u) (0) 809 = some (.int (u 10 0)) := by
  have y := gt_gf (u := u) (f := 809) (t_c0) rfl rfl
  exact y
theorem pf_0_9  : gm_pf (gt_h u) (0) 809 (.int x) = some (gt_h (gt_set u 10 0 x)) := by
  have y := gt_pf (u := u) (x := x) (f := 809) (t_c0) rfl rfl (by decide) rfl
  exact y
theorem f_0_10  : gm_gf (gt_h u) (0) 810 = some (.int (u 10 1)) := by
  have y := gt_gf (u := u) (f := 810) (t_c0) rfl rfl
  exact y
theorem pf_0_10_1  : gm_pf (gt_h u) (0) 810 (.int (nI 1)) = some (gt_h (gt_set u 10 1 (nI 1))) := by
  have y := gt_pf (u := u) (x := (nI 1)) (f := 810) (t_c0) rfl rfl (by decide) rfl
  exact y
theorem pf_0_10_0  : gm_pf (gt_h u) (0) 810 (.int (nI 0)) = some (gt_h (gt_set u 10 1 (nI 0))) := by
  have y := gt_pf (u := u) (x := (nI 0)) (f := 810) (t_c0) rfl rfl (by decide) rfl
  exact y
theorem pf_0_10_b {c : Prop} [Decidable c]  : gm_pf (gt_h u) (0) 810 (.int (bI c)) = some (gt_h (gt_set u 10 1 (bI c))) := by
  have y := gt_pf (u := u) (x := bI c) (f := 810) (t_c0) rfl rfl (by decide) (by unfold bI; split <;> rfl)
  exact y
theorem t_c1 : gt_t[1]? = some (.inl (7, 99, 0, [.inl (.ref 2), .inl (.ref 18), .inl (.ref 19), .inl (.ref 20), .inl (.ref 21)])) := gt_ist_ok (by decide +kernel)
theorem f_1_0  : gm_gf (gt_h u) (1) 700 = some (.ref (2)) := by
  have y := gt_gf (u := u) (f := 700) (t_c1) rfl rfl
  exact y
theorem f_1_1  : gm_gf (gt_h u) (1) 701 = some (.ref (18)) := by
  have y := gt_gf (u := u) (f := 701) (t_c1) rfl rfl
  exact y
theorem f_1_2  : gm_gf (gt_h u) (1) 702 = some (.ref (19)) := by
  have y := gt_gf (u := u) (f := 702) (t_c1) rfl rfl
  exact y
theorem f_1_3  : gm_gf (gt_h u) (1) 703 = some (.ref (20)) := by
  have y := gt_gf (u := u) (f := 703) (t_c1) rfl rfl
  exact y
theorem f_1_4  : gm_gf (gt_h u) (1) 704 = some (.ref (21)) := by
  have y := gt_gf (u := u) (f := 704) (t_c1) rfl rfl
  exact y
theorem t_c82 : gt_t[82]? = some (.inl (6, 7, 0, [.inl (.ref 83), .inr 0, .inr 1, .inr 2, .inr 3])) := gt_ist_ok (by decide +kernel)
theorem f_82_0  : gm_gf (gt_h u) (82) 600 = some (.ref (83)) := by
  have y := gt_gf (u := u) (f := 600) (t_c82) rfl rfl
  exact y
theorem f_82_1  : gm_gf (gt_h u) (82) 601 = some (.int (u 7 0)) := by
  have y := gt_gf (u := u) (f := 601) (t_c82) rfl rfl
  exact y
theorem pf_82_1  : gm_pf (gt_h u) (82) 601 (.int x) = some (gt_h (gt_set u 7 0 x)) := by
  have y := gt_pf (u := u) (x := x) (f := 601) (t_c82) rfl rfl (by decide) rfl
  exact y
theorem f_82_2  : gm_gf (gt_h u) (82) 602 = some (.int (u 7 1)) := by
  have y := gt_gf (u := u) (f := 602) (t_c82) rfl rfl
  exact y
theorem pf_82_2  : gm_pf (gt_h u) (82) 602 (.int x) = some (gt_h (gt_set u 7 1 x)) := by
  have y := gt_pf (u := u) (x := x) (f := 602) (t_c82) rfl rfl (by decide) rfl
  exact y
theorem f_82_3  : gm_gf (gt_h u) (82) 603 = some (.int (u 7 2)) := by
  have y := gt_gf (u := u) (f := 603) (t_c82) rfl rfl
  exact y
theorem pf_82_3  : gm_pf (gt_h u) (82) 603 (.int x) = some (gt_h (gt_set u 7 2 x)) := by
  have y := gt_pf (u := u) (x := x) (f := 603) (t_c82) rfl rfl (by decide) rfl
  exact y
theorem f_82_4  : gm_gf (gt_h u) (82) 604 = some (.int (u 7 3)) := by
  have y := gt_gf (u := u) (f := 604) (t_c82) rfl rfl
  exact y
theorem pf_82_4  : gm_pf (gt_h u) (82) 604 (.int x) = some (gt_h (gt_set u 7 3 x)) := by
  have y := gt_pf (u := u) (x := x) (f := 604) (t_c82) rfl rfl (by decide) rfl
  exact y
theorem t_c84 : gt_t[84]? = some (.inl (3, 9, 0, [.inl (.ref 82), .inl (.ref 1), .inr 0, .inr 1001])) := gt_ist_ok (by decide +kernel)
theorem f_84_0  : gm_gf (gt_h u) (84) 300 = some (.ref (82)) := by
  have y := gt_gf (u := u) (f := 300) (t_c84) rfl rfl
  exact y
theorem f_84_1  : gm_gf (gt_h u) (84) 301 = some (.ref (1)) := by
  have y := gt_gf (u := u) (f := 301) (t_c84) rfl rfl
  exact y
theorem f_84_2  : gm_gf (gt_h u) (84) 302 = some (.int (u 9 0)) := by
  have y := gt_gf (u := u) (f := 302) (t_c84) rfl rfl
  exact y
theorem pf_84_2  : gm_pf (gt_h u) (84) 302 (.int x) = some (gt_h (gt_set u 9 0 x)) := by
  have y := gt_pf (u := u) (x := x) (f := 302) (t_c84) rfl rfl (by decide) rfl
  exact y
theorem f_84_3 : gm_gf (gt_h u) 84 303 = some (.ref (10030 + (u 9 1).toNatClampNeg)) := by
  have y := gt_gf (u := u) (f := 303) t_c84 rfl rfl
  exact y
theorem pf_84_3 (hk : k < 7) : gm_pf (gt_h u) 84 303 (.ref (10030 + k)) = some (gt_h (gt_set u 9 1 (nI k))) := by
  have hf : gm_fo 303 (.ref (10030 + k)) = true := by
    have e1 : gm_kf 303 = 2 := by decide +kernel
    have e2 : ((10030 + k : Nat) == 10050) = false := by rw [beq_eq_false_iff_ne]; omega
    unfold gm_fo
    simp only [e1]
    rw [show (10030 + k == 10050) = false from e2]
    rfl
  have y := gt_pfS (u := u) (f := 303) (j := 1) t_c84 rfl rfl hk hf
  exact y
theorem t_c116 : gt_t[116]? = some (.inl (9, 54, 0, [.inl (.ref 117), .inl (.ref 118), .inr 0, .inl (.ref 119), .inl (.ref 120), .inr 1, .inl (.ref 121), .inl (.ref 122), .inr 2, .inr 3, .inr 4, .inr 5, .inr 6, .inr 7, .inr 8, .inr 9, .inr 10, .inl (.ref 123), .inl (.ref 124), .inl (.ref 125), .inl (.ref 126), .inl (.ref 127), .inl (.ref 128), .inl (.ref 129), .inl (.ref 130), .inl (.ref 131), .inl (.ref 132), .inr 11])) := gt_ist_ok (by decide +kernel)
theorem f_116_0  : gm_gf (gt_h u) (116) 900 = some (.ref (117)) := by
  have y := gt_gf (u := u) (f := 900) (t_c116) rfl rfl
  exact y
theorem f_116_1  : gm_gf (gt_h u) (116) 901 = some (.ref (118)) := by
  have y := gt_gf (u := u) (f := 901) (t_c116) rfl rfl
  exact y
theorem f_116_2  : gm_gf (gt_h u) (116) 902 = some (.int (u 54 0)) := by
  have y := gt_gf (u := u) (f := 902) (t_c116) rfl rfl
  exact y
theorem pf_116_2_1  : gm_pf (gt_h u) (116) 902 (.int (nI 1)) = some (gt_h (gt_set u 54 0 (nI 1))) := by
  have y := gt_pf (u := u) (x := (nI 1)) (f := 902) (t_c116) rfl rfl (by decide) rfl
  exact y
theorem pf_116_2_0  : gm_pf (gt_h u) (116) 902 (.int (nI 0)) = some (gt_h (gt_set u 54 0 (nI 0))) := by
  have y := gt_pf (u := u) (x := (nI 0)) (f := 902) (t_c116) rfl rfl (by decide) rfl
  exact y
theorem pf_116_2_b {c : Prop} [Decidable c]  : gm_pf (gt_h u) (116) 902 (.int (bI c)) = some (gt_h (gt_set u 54 0 (bI c))) := by
  have y := gt_pf (u := u) (x := bI c) (f := 902) (t_c116) rfl rfl (by decide) (by unfold bI; split <;> rfl)
  exact y
theorem f_116_3  : gm_gf (gt_h u) (116) 903 = some (.ref (119)) := by
  have y := gt_gf (u := u) (f := 903) (t_c116) rfl rfl
  exact y
theorem f_116_4  : gm_gf (gt_h u) (116) 904 = some (.ref (120)) := by
  have y := gt_gf (u := u) (f := 904) (t_c116) rfl rfl
  exact y
theorem f_116_5  : gm_gf (gt_h u) (116) 905 = some (.int (u 54 1)) := by
  have y := gt_gf (u := u) (f := 905) (t_c116) rfl rfl
  exact y
theorem pf_116_5  : gm_pf (gt_h u) (116) 905 (.int x) = some (gt_h (gt_set u 54 1 x)) := by
  have y := gt_pf (u := u) (x := x) (f := 905) (t_c116) rfl rfl (by decide) rfl
  exact y
theorem f_116_6  : gm_gf (gt_h u) (116) 906 = some (.ref (121)) := by
  have y := gt_gf (u := u) (f := 906) (t_c116) rfl rfl
  exact y
theorem f_116_7  : gm_gf (gt_h u) (116) 907 = some (.ref (122)) := by
  have y := gt_gf (u := u) (f := 907) (t_c116) rfl rfl
  exact y
theorem f_116_8  : gm_gf (gt_h u) (116) 908 = some (.int (u 54 2)) := by
  have y := gt_gf (u := u) (f := 908) (t_c116) rfl rfl
  exact y
theorem pf_116_8  : gm_pf (gt_h u) (116) 908 (.int x) = some (gt_h (gt_set u 54 2 x)) := by
  have y := gt_pf (u := u) (x := x) (f := 908) (t_c116) rfl rfl (by decide) rfl
  exact y
theorem f_116_9  : gm_gf (gt_h u) (116) 909 = some (.int (u 54 3)) := by
  have y := gt_gf (u := u) (f := 909) (t_c116) rfl rfl
  exact y
theorem pf_116_9  : gm_pf (gt_h u) (116) 909 (.int x) = some (gt_h (gt_set u 54 3 x)) := by
  have y := gt_pf (u := u) (x := x) (f := 909) (t_c116) rfl rfl (by decide) rfl
  exact y
theorem f_116_10  : gm_gf (gt_h u) (116) 910 = some (.int (u 54 4)) := by
  have y := gt_gf (u := u) (f := 910) (t_c116) rfl rfl
  exact y
theorem pf_116_10  : gm_pf (gt_h u) (116) 910 (.int x) = some (gt_h (gt_set u 54 4 x)) := by
  have y := gt_pf (u := u) (x := x) (f := 910) (t_c116) rfl rfl (by decide) rfl
  exact y
theorem f_116_11  : gm_gf (gt_h u) (116) 911 = some (.int (u 54 5)) := by
  have y := gt_gf (u := u) (f := 911) (t_c116) rfl rfl
  exact y
theorem pf_116_11_1  : gm_pf (gt_h u) (116) 911 (.int (nI 1)) = some (gt_h (gt_set u 54 5 (nI 1))) := by
  have y := gt_pf (u := u) (x := (nI 1)) (f := 911) (t_c116) rfl rfl (by decide) rfl
  exact y
theorem pf_116_11_0  : gm_pf (gt_h u) (116) 911 (.int (nI 0)) = some (gt_h (gt_set u 54 5 (nI 0))) := by
  have y := gt_pf (u := u) (x := (nI 0)) (f := 911) (t_c116) rfl rfl (by decide) rfl
  exact y
theorem pf_116_11_b {c : Prop} [Decidable c]  : gm_pf (gt_h u) (116) 911 (.int (bI c)) = some (gt_h (gt_set u 54 5 (bI c))) := by
  have y := gt_pf (u := u) (x := bI c) (f := 911) (t_c116) rfl rfl (by decide) (by unfold bI; split <;> rfl)
  exact y
theorem f_116_12  : gm_gf (gt_h u) (116) 912 = some (.int (u 54 6)) := by
  have y := gt_gf (u := u) (f := 912) (t_c116) rfl rfl
  exact y
theorem pf_116_12  : gm_pf (gt_h u) (116) 912 (.int x) = some (gt_h (gt_set u 54 6 x)) := by
  have y := gt_pf (u := u) (x := x) (f := 912) (t_c116) rfl rfl (by decide) rfl
  exact y
theorem f_116_13  : gm_gf (gt_h u) (116) 913 = some (.int (u 54 7)) := by
  have y := gt_gf (u := u) (f := 913) (t_c116) rfl rfl
  exact y
theorem pf_116_13  : gm_pf (gt_h u) (116) 913 (.int x) = some (gt_h (gt_set u 54 7 x)) := by
  have y := gt_pf (u := u) (x := x) (f := 913) (t_c116) rfl rfl (by decide) rfl
  exact y
theorem f_116_14  : gm_gf (gt_h u) (116) 914 = some (.int (u 54 8)) := by
  have y := gt_gf (u := u) (f := 914) (t_c116) rfl rfl
  exact y
theorem pf_116_14  : gm_pf (gt_h u) (116) 914 (.int x) = some (gt_h (gt_set u 54 8 x)) := by
  have y := gt_pf (u := u) (x := x) (f := 914) (t_c116) rfl rfl (by decide) rfl
  exact y
theorem f_116_15  : gm_gf (gt_h u) (116) 915 = some (.int (u 54 9)) := by
  have y := gt_gf (u := u) (f := 915) (t_c116) rfl rfl
  exact y
theorem pf_116_15  : gm_pf (gt_h u) (116) 915 (.int x) = some (gt_h (gt_set u 54 9 x)) := by
  have y := gt_pf (u := u) (x := x) (f := 915) (t_c116) rfl rfl (by decide) rfl
  exact y
theorem f_116_16  : gm_gf (gt_h u) (116) 916 = some (.int (u 54 10)) := by
  have y := gt_gf (u := u) (f := 916) (t_c116) rfl rfl
  exact y
theorem pf_116_16  : gm_pf (gt_h u) (116) 916 (.int x) = some (gt_h (gt_set u 54 10 x)) := by
  have y := gt_pf (u := u) (x := x) (f := 916) (t_c116) rfl rfl (by decide) rfl
  exact y
theorem f_116_17  : gm_gf (gt_h u) (116) 917 = some (.ref (123)) := by
  have y := gt_gf (u := u) (f := 917) (t_c116) rfl rfl
  exact y
theorem f_116_18  : gm_gf (gt_h u) (116) 918 = some (.ref (124)) := by
  have y := gt_gf (u := u) (f := 918) (t_c116) rfl rfl
  exact y
theorem f_116_19  : gm_gf (gt_h u) (116) 919 = some (.ref (125)) := by
  have y := gt_gf (u := u) (f := 919) (t_c116) rfl rfl
  exact y
theorem f_116_20  : gm_gf (gt_h u) (116) 920 = some (.ref (126)) := by
  have y := gt_gf (u := u) (f := 920) (t_c116) rfl rfl
  exact y
theorem f_116_21  : gm_gf (gt_h u) (116) 921 = some (.ref (127)) := by
  have y := gt_gf (u := u) (f := 921) (t_c116) rfl rfl
  exact y
theorem f_116_22  : gm_gf (gt_h u) (116) 922 = some (.ref (128)) := by
  have y := gt_gf (u := u) (f := 922) (t_c116) rfl rfl
  exact y
theorem f_116_23  : gm_gf (gt_h u) (116) 923 = some (.ref (129)) := by
  have y := gt_gf (u := u) (f := 923) (t_c116) rfl rfl
  exact y
theorem f_116_24  : gm_gf (gt_h u) (116) 924 = some (.ref (130)) := by
  have y := gt_gf (u := u) (f := 924) (t_c116) rfl rfl
  exact y
theorem f_116_25  : gm_gf (gt_h u) (116) 925 = some (.ref (131)) := by
  have y := gt_gf (u := u) (f := 925) (t_c116) rfl rfl
  exact y
theorem f_116_26  : gm_gf (gt_h u) (116) 926 = some (.ref (132)) := by
  have y := gt_gf (u := u) (f := 926) (t_c116) rfl rfl
  exact y
theorem f_116_27  : gm_gf (gt_h u) (116) 927 = some (.int (u 54 11)) := by
  have y := gt_gf (u := u) (f := 927) (t_c116) rfl rfl
  exact y
theorem pf_116_27  : gm_pf (gt_h u) (116) 927 (.int x) = some (gt_h (gt_set u 54 11 x)) := by
  have y := gt_pf (u := u) (x := x) (f := 927) (t_c116) rfl rfl (by decide) rfl
  exact y
theorem k_0 : gm_cls (gt_h u) 0 = 8 := gt_cls t_c0
theorem k_1 : gm_cls (gt_h u) 1 = 7 := gt_cls t_c1
theorem k_82 : gm_cls (gt_h u) 82 = 6 := gt_cls t_c82
theorem k_84 : gm_cls (gt_h u) 84 = 3 := gt_cls t_c84
theorem k_116 : gm_cls (gt_h u) 116 = 9 := gt_cls t_c116
theorem k_S (hk : k < 7) : gm_cls (gt_h u) (10030 + k) = 20 := by
  unfold gm_cls
  rw [if_neg (by omega), if_pos (by omega)]
theorem a_zCA (hg : g < 3) (hk : k < 3) : gm_ial X (gt_h u) (zCA g) (nI k) = some (u g (69 + k)) := by
  have y := gt_ial (X := X) (u := u) (t_zCA _ hg) hk (by decide)
  exact y
theorem w_zCA (hg : g < 3) (hk : k < 3) : gm_ias (gt_h u) (zCA g) (nI k) x = some (gt_h (gt_set u g (69 + k) x)) := by
  have y := gt_ias (u := u) (x := x) (t_zCA _ hg) hk (by decide)
  exact y
theorem a_zTR (ht : t < 15) (hk : k < 96) : gm_ial X (gt_h u) (zTR t) (nI k) = some (u (21 + t) (k)) := by
  have y := gt_ial (X := X) (u := u) (t_zTR _ ht) hk (by decide)
  rw [Nat.zero_add] at y
  exact y
theorem w_zTR (ht : t < 15) (hk : k < 96) : gm_ias (gt_h u) (zTR t) (nI k) x = some (gt_h (gt_set u (21 + t) (k) x)) := by
  have y := gt_ias (u := u) (x := x) (t_zTR _ ht) hk (by decide)
  rw [Nat.zero_add] at y
  exact y
theorem a_zSP (hs : s < 4) (hk : k < 24) : gm_ial X (gt_h u) (zSP s) (nI k) = some (u (12 + s) (2 + k)) := by
  have y := gt_ial (X := X) (u := u) (t_zSP _ hs) hk (by decide)
  exact y
theorem w_zSP (hs : s < 4) (hk : k < 24) : gm_ias (gt_h u) (zSP s) (nI k) x = some (gt_h (gt_set u (12 + s) (2 + k) x)) := by
  have y := gt_ias (u := u) (x := x) (t_zSP _ hs) hk (by decide)
  exact y
theorem a_zLP (hs : s < 5) (hk : k < 24) : gm_ial X (gt_h u) (zLP s) (nI k) = some (u (16 + s) (8 + k)) := by
  have y := gt_ial (X := X) (u := u) (t_zLP _ hs) hk (by decide)
  exact y
theorem w_zLP (hs : s < 5) (hk : k < 24) : gm_ias (gt_h u) (zLP s) (nI k) x = some (gt_h (gt_set u (16 + s) (8 + k) x)) := by
  have y := gt_ias (u := u) (x := x) (t_zLP _ hs) hk (by decide)
  exact y
theorem t_c18 : gt_t[18]? = some (.inr (.inl (3, 0, 15))) := gt_ist_ok (by decide +kernel)
theorem a_18  (hk : k < 15) : gm_ial X (gt_h u) (18) (nI k) = some (u 3 (k)) := by
  have y := gt_ial (X := X) (u := u) (t_c18) hk (by decide)
  rw [Nat.zero_add] at y
  exact y
theorem w_18  (hk : k < 15) : gm_ias (gt_h u) (18) (nI k) x = some (gt_h (gt_set u 3 (k) x)) := by
  have y := gt_ias (u := u) (x := x) (t_c18) hk (by decide)
  rw [Nat.zero_add] at y
  exact y
theorem t_c19 : gt_t[19]? = some (.inr (.inl (4, 0, 15))) := gt_ist_ok (by decide +kernel)
theorem a_19  (hk : k < 15) : gm_ial X (gt_h u) (19) (nI k) = some (u 4 (k)) := by
  have y := gt_ial (X := X) (u := u) (t_c19) hk (by decide)
  rw [Nat.zero_add] at y
  exact y
theorem w_19  (hk : k < 15) : gm_ias (gt_h u) (19) (nI k) x = some (gt_h (gt_set u 4 (k) x)) := by
  have y := gt_ias (u := u) (x := x) (t_c19) hk (by decide)
  rw [Nat.zero_add] at y
  exact y
theorem t_c20 : gt_t[20]? = some (.inr (.inl (5, 0, 15))) := gt_ist_ok (by decide +kernel)
theorem a_20  (hk : k < 15) : gm_ial X (gt_h u) (20) (nI k) = some (u 5 (k)) := by
  have y := gt_ial (X := X) (u := u) (t_c20) hk (by decide)
  rw [Nat.zero_add] at y
  exact y
theorem w_20  (hk : k < 15) : gm_ias (gt_h u) (20) (nI k) x = some (gt_h (gt_set u 5 (k) x)) := by
  have y := gt_ias (u := u) (x := x) (t_c20) hk (by decide)
  rw [Nat.zero_add] at y
  exact y
theorem t_c21 : gt_t[21]? = some (.inr (.inl (6, 0, 96))) := gt_ist_ok (by decide +kernel)
theorem a_21  (hk : k < 96) : gm_ial X (gt_h u) (21) (nI k) = some (u 6 (k)) := by
  have y := gt_ial (X := X) (u := u) (t_c21) hk (by decide)
  rw [Nat.zero_add] at y
  exact y
theorem w_21  (hk : k < 96) : gm_ias (gt_h u) (21) (nI k) x = some (gt_h (gt_set u 6 (k) x)) := by
  have y := gt_ias (u := u) (x := x) (t_c21) hk (by decide)
  rw [Nat.zero_add] at y
  exact y
theorem t_c83 : gt_t[83]? = some (.inr (.inl (8, 0, 96))) := gt_ist_ok (by decide +kernel)
theorem a_83  (hk : k < 96) : gm_ial X (gt_h u) (83) (nI k) = some (u 8 (k)) := by
  have y := gt_ial (X := X) (u := u) (t_c83) hk (by decide)
  rw [Nat.zero_add] at y
  exact y
theorem w_83  (hk : k < 96) : gm_ias (gt_h u) (83) (nI k) x = some (gt_h (gt_set u 8 (k) x)) := by
  have y := gt_ias (u := u) (x := x) (t_c83) hk (by decide)
  rw [Nat.zero_add] at y
  exact y
theorem t_c87 : gt_t[87]? = some (.inr (.inl (11, 0, 60))) := gt_ist_ok (by decide +kernel)
theorem a_87  (hk : k < 60) : gm_ial X (gt_h u) (87) (nI k) = some (u 11 (k)) := by
  have y := gt_ial (X := X) (u := u) (t_c87) hk (by decide)
  rw [Nat.zero_add] at y
  exact y
theorem w_87  (hk : k < 60) : gm_ias (gt_h u) (87) (nI k) x = some (gt_h (gt_set u 11 (k) x)) := by
  have y := gt_ias (u := u) (x := x) (t_c87) hk (by decide)
  rw [Nat.zero_add] at y
  exact y
theorem t_c117 : gt_t[117]? = some (.inr (.inl (40, 0, 1469))) := gt_ist_ok (by decide +kernel)
theorem a_117  (hk : k < 1469) : gm_ial X (gt_h u) (117) (nI k) = some (u 40 (k)) := by
  have y := gt_ial (X := X) (u := u) (t_c117) hk (by decide)
  rw [Nat.zero_add] at y
  exact y
theorem w_117  (hk : k < 1469) : gm_ias (gt_h u) (117) (nI k) x = some (gt_h (gt_set u 40 (k) x)) := by
  have y := gt_ias (u := u) (x := x) (t_c117) hk (by decide)
  rw [Nat.zero_add] at y
  exact y
theorem t_c118 : gt_t[118]? = some (.inr (.inl (41, 0, 1469))) := gt_ist_ok (by decide +kernel)
theorem a_118  (hk : k < 1469) : gm_ial X (gt_h u) (118) (nI k) = some (u 41 (k)) := by
  have y := gt_ial (X := X) (u := u) (t_c118) hk (by decide)
  rw [Nat.zero_add] at y
  exact y
theorem w_118  (hk : k < 1469) : gm_ias (gt_h u) (118) (nI k) x = some (gt_h (gt_set u 41 (k) x)) := by
  have y := gt_ias (u := u) (x := x) (t_c118) hk (by decide)
  rw [Nat.zero_add] at y
  exact y
theorem t_c119 : gt_t[119]? = some (.inr (.inl (42, 0, 69))) := gt_ist_ok (by decide +kernel)
theorem a_119  (hk : k < 69) : gm_ial X (gt_h u) (119) (nI k) = some (u 42 (k)) := by
  have y := gt_ial (X := X) (u := u) (t_c119) hk (by decide)
  rw [Nat.zero_add] at y
  exact y
theorem w_119  (hk : k < 69) : gm_ias (gt_h u) (119) (nI k) x = some (gt_h (gt_set u 42 (k) x)) := by
  have y := gt_ias (u := u) (x := x) (t_c119) hk (by decide)
  rw [Nat.zero_add] at y
  exact y
theorem t_c120 : gt_t[120]? = some (.inr (.inl (43, 0, 96))) := gt_ist_ok (by decide +kernel)
theorem a_120  (hk : k < 96) : gm_ial X (gt_h u) (120) (nI k) = some (u 43 (k)) := by
  have y := gt_ial (X := X) (u := u) (t_c120) hk (by decide)
  rw [Nat.zero_add] at y
  exact y
theorem w_120  (hk : k < 96) : gm_ias (gt_h u) (120) (nI k) x = some (gt_h (gt_set u 43 (k) x)) := by
  have y := gt_ias (u := u) (x := x) (t_c120) hk (by decide)
  rw [Nat.zero_add] at y
  exact y
theorem t_c123 : gt_t[123]? = some (.inr (.inl (44, 0, 100))) := gt_ist_ok (by decide +kernel)
theorem a_123  (hk : k < 100) : gm_ial X (gt_h u) (123) (nI k) = some (u 44 (k)) := by
  have y := gt_ial (X := X) (u := u) (t_c123) hk (by decide)
  rw [Nat.zero_add] at y
  exact y
theorem w_123  (hk : k < 100) : gm_ias (gt_h u) (123) (nI k) x = some (gt_h (gt_set u 44 (k) x)) := by
  have y := gt_ias (u := u) (x := x) (t_c123) hk (by decide)
  rw [Nat.zero_add] at y
  exact y
theorem t_c124 : gt_t[124]? = some (.inr (.inl (45, 0, 3))) := gt_ist_ok (by decide +kernel)
theorem a_124  (hk : k < 3) : gm_ial X (gt_h u) (124) (nI k) = some (u 45 (k)) := by
  have y := gt_ial (X := X) (u := u) (t_c124) hk (by decide)
  rw [Nat.zero_add] at y
  exact y
theorem w_124  (hk : k < 3) : gm_ias (gt_h u) (124) (nI k) x = some (gt_h (gt_set u 45 (k) x)) := by
  have y := gt_ias (u := u) (x := x) (t_c124) hk (by decide)
  rw [Nat.zero_add] at y
  exact y
theorem t_c125 : gt_t[125]? = some (.inr (.inl (46, 0, 100))) := gt_ist_ok (by decide +kernel)
theorem a_125  (hk : k < 100) : gm_ial X (gt_h u) (125) (nI k) = some (u 46 (k)) := by
  have y := gt_ial (X := X) (u := u) (t_c125) hk (by decide)
  rw [Nat.zero_add] at y
  exact y
theorem w_125  (hk : k < 100) : gm_ias (gt_h u) (125) (nI k) x = some (gt_h (gt_set u 46 (k) x)) := by
  have y := gt_ias (u := u) (x := x) (t_c125) hk (by decide)
  rw [Nat.zero_add] at y
  exact y
theorem t_c126 : gt_t[126]? = some (.inr (.inl (47, 0, 4))) := gt_ist_ok (by decide +kernel)
theorem a_126  (hk : k < 4) : gm_ial X (gt_h u) (126) (nI k) = some (u 47 (k)) := by
  have y := gt_ial (X := X) (u := u) (t_c126) hk (by decide)
  rw [Nat.zero_add] at y
  exact y
theorem w_126  (hk : k < 4) : gm_ias (gt_h u) (126) (nI k) x = some (gt_h (gt_set u 47 (k) x)) := by
  have y := gt_ias (u := u) (x := x) (t_c126) hk (by decide)
  rw [Nat.zero_add] at y
  exact y
theorem t_c127 : gt_t[127]? = some (.inr (.inl (48, 0, 4))) := gt_ist_ok (by decide +kernel)
theorem a_127  (hk : k < 4) : gm_ial X (gt_h u) (127) (nI k) = some (u 48 (k)) := by
  have y := gt_ial (X := X) (u := u) (t_c127) hk (by decide)
  rw [Nat.zero_add] at y
  exact y
theorem w_127  (hk : k < 4) : gm_ias (gt_h u) (127) (nI k) x = some (gt_h (gt_set u 48 (k) x)) := by
  have y := gt_ias (u := u) (x := x) (t_c127) hk (by decide)
  rw [Nat.zero_add] at y
  exact y
theorem t_c128 : gt_t[128]? = some (.inr (.inl (49, 0, 96))) := gt_ist_ok (by decide +kernel)
theorem a_128  (hk : k < 96) : gm_ial X (gt_h u) (128) (nI k) = some (u 49 (k)) := by
  have y := gt_ial (X := X) (u := u) (t_c128) hk (by decide)
  rw [Nat.zero_add] at y
  exact y
theorem w_128  (hk : k < 96) : gm_ias (gt_h u) (128) (nI k) x = some (gt_h (gt_set u 49 (k) x)) := by
  have y := gt_ias (u := u) (x := x) (t_c128) hk (by decide)
  rw [Nat.zero_add] at y
  exact y
theorem t_c129 : gt_t[129]? = some (.inr (.inl (50, 0, 24))) := gt_ist_ok (by decide +kernel)
theorem a_129  (hk : k < 24) : gm_ial X (gt_h u) (129) (nI k) = some (u 50 (k)) := by
  have y := gt_ial (X := X) (u := u) (t_c129) hk (by decide)
  rw [Nat.zero_add] at y
  exact y
theorem w_129  (hk : k < 24) : gm_ias (gt_h u) (129) (nI k) x = some (gt_h (gt_set u 50 (k) x)) := by
  have y := gt_ias (u := u) (x := x) (t_c129) hk (by decide)
  rw [Nat.zero_add] at y
  exact y
theorem t_c130 : gt_t[130]? = some (.inr (.inl (51, 0, 5))) := gt_ist_ok (by decide +kernel)
theorem a_130  (hk : k < 5) : gm_ial X (gt_h u) (130) (nI k) = some (u 51 (k)) := by
  have y := gt_ial (X := X) (u := u) (t_c130) hk (by decide)
  rw [Nat.zero_add] at y
  exact y
theorem w_130  (hk : k < 5) : gm_ias (gt_h u) (130) (nI k) x = some (gt_h (gt_set u 51 (k) x)) := by
  have y := gt_ias (u := u) (x := x) (t_c130) hk (by decide)
  rw [Nat.zero_add] at y
  exact y
theorem t_c131 : gt_t[131]? = some (.inr (.inl (52, 0, 125))) := gt_ist_ok (by decide +kernel)
theorem a_131  (hk : k < 125) : gm_ial X (gt_h u) (131) (nI k) = some (u 52 (k)) := by
  have y := gt_ial (X := X) (u := u) (t_c131) hk (by decide)
  rw [Nat.zero_add] at y
  exact y
theorem w_131  (hk : k < 125) : gm_ias (gt_h u) (131) (nI k) x = some (gt_h (gt_set u 52 (k) x)) := by
  have y := gt_ias (u := u) (x := x) (t_c131) hk (by decide)
  rw [Nat.zero_add] at y
  exact y
theorem t_c132 : gt_t[132]? = some (.inr (.inl (53, 0, 60))) := gt_ist_ok (by decide +kernel)
theorem a_132  (hk : k < 60) : gm_ial X (gt_h u) (132) (nI k) = some (u 53 (k)) := by
  have y := gt_ial (X := X) (u := u) (t_c132) hk (by decide)
  rw [Nat.zero_add] at y
  exact y
theorem w_132  (hk : k < 60) : gm_ias (gt_h u) (132) (nI k) x = some (gt_h (gt_set u 53 (k) x)) := by
  have y := gt_ias (u := u) (x := x) (t_c132) hk (by decide)
  rw [Nat.zero_add] at y
  exact y
theorem r_zBA (hg : g < 3) (hk : k < 8) : gm_aal (gt_h u) (zBA g) (nI k) = some (.ref (zBC g k)) := gt_aal (t_zBA _ hg) (by rw [List.getElem?_map, List.getElem?_range hk]; rfl) (by decide) (by rw [nf_zBC]; exact id) (by rw [List.length_map, List.length_range]; decide)
theorem r_zDA (hg : g < 3) (hk : k < 8) : gm_aal (gt_h u) (zDA g) (nI k) = some (.ref (zDC g k)) := gt_aal (t_zDA _ hg) (by rw [List.getElem?_map, List.getElem?_range hk]; rfl) (by decide) (by rw [nf_zDC]; exact id) (by rw [List.length_map, List.length_range]; decide)
theorem t_c2 : gt_t[2]? = some (.inr (.inr (5, (List.range 15).map (fun t => some (zTR t))))) := gt_ist_ok (by decide +kernel)
theorem t_c85 : gt_t[85]? = some (.inr (.inr (3, (List.range 4).map (fun s => some (zSC s))))) := gt_ist_ok (by decide +kernel)
theorem t_c86 : gt_t[86]? = some (.inr (.inr (4, (List.range 5).map (fun s => some (zLC s))))) := gt_ist_ok (by decide +kernel)
theorem t_c121 : gt_t[121]? = some (.inr (.inr (6, (List.range 3).map (fun s => some (10030 + (2 * s + 1)))))) := gt_ist_ok (by decide +kernel)
theorem t_c122 : gt_t[122]? = some (.inr (.inr (6, (List.range 3).map (fun s => some (10030 + (2 * s + 2)))))) := gt_ist_ok (by decide +kernel)
theorem r_2  (hk : k < 15) : gm_aal (gt_h u) (2) (nI k) = some (.ref (zTR k)) := gt_aal (t_c2) (by rw [List.getElem?_map, List.getElem?_range hk]; rfl) (by decide) (by rw [nf_zTR]; exact id) (by rw [List.length_map, List.length_range]; decide)
theorem r_85  (hk : k < 4) : gm_aal (gt_h u) (85) (nI k) = some (.ref (zSC k)) := gt_aal (t_c85) (by rw [List.getElem?_map, List.getElem?_range hk]; rfl) (by decide) (by rw [nf_zSC]; exact id) (by rw [List.length_map, List.length_range]; decide)
theorem r_86  (hk : k < 5) : gm_aal (gt_h u) (86) (nI k) = some (.ref (zLC k)) := gt_aal (t_c86) (by rw [List.getElem?_map, List.getElem?_range hk]; rfl) (by decide) (by rw [nf_zLC]; exact id) (by rw [List.length_map, List.length_range]; decide)
theorem r_121 (hk : k < 3) : gm_aal (gt_h u) 121 (nI k) = some (.ref (10030 + (2 * k + 1))) := gt_aal t_c121 (by rw [List.getElem?_map, List.getElem?_range hk]; rfl) (by decide) (by omega) (by decide)
theorem r_122 (hk : k < 3) : gm_aal (gt_h u) 122 (nI k) = some (.ref (10030 + (2 * k + 2))) := gt_aal t_c122 (by rw [List.getElem?_map, List.getElem?_range hk]; rfl) (by decide) (by omega) (by decide)
theorem f_S0 (hk : k < 7) : gm_gf (gt_h u) (10030 + k) 2000 = some (.ref (10010 + k)) := by
  unfold gm_gf
  rw [if_neg (by omega), if_pos (by omega)]
  show some (Value.ref (10030 + k - 20)) = _
  rw [show 10030 + k - 20 = 10010 + k by omega]
theorem f_S1 (hk : k < 7) : gm_gf (gt_h u) (10030 + k) 2001 = some (.int (nI 0)) := by
  unfold gm_gf
  rw [if_neg (by omega), if_neg (by omega), if_pos (by omega)]
  rfl
end CELLS
