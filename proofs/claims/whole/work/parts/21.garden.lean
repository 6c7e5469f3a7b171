-- gardens: what they do, as rows; the class's gardens
def gR (u : gt_M) (b : Nat) (w : Nat → Int32) (n m : Nat) : Prop := ∀ o, (o < 13 ∨ (13 ≤ o ∧ o < 13 + 4 * n) ∨ (45 ≤ o ∧ o < 45 + 3 * m)) → u b o = w o
theorem gR_set {u : gt_M} {b : Nat} {w : Nat → Int32} {n m o : Nat} {x : Int32} (h : gR u b w n m) : gR (gt_set u b o x) b (wS w o x) n m := by
  intro k hk
  rw [gs_row]
  by_cases hj : k = o
  · rw [wS_hit hj, wS_hit hj]
  · rw [wS_miss hj, wS_miss hj, h k hk]
theorem gR_eq {u u' : gt_M} {b : Nat} {w : Nat → Int32} {n m : Nat} (h : gR u b w n m) (e : u' b = u b) : gR u' b w n m := by
  intro k hk
  rw [e, h k hk]
theorem gR_w {u : gt_M} {b : Nat} {w w' : Nat → Int32} {n m : Nat} (h : gR u b w n m) (e : ∀ o, w o = w' o) : gR u b w' n m := by
  intro k hk
  rw [← e, h k hk]
def fG (g : Nat) (u u' : gt_M) : Prop := (∀ b, b ≠ g → b ≠ 6 → u' b = u b) ∧ (∀ o, 69 ≤ o → u' g o = u g o)
theorem fG_refl {g : Nat} {u : gt_M} : fG g u u := ⟨fun _ _ _ => rfl, fun _ _ => rfl⟩
theorem fG_trans {g : Nat} {u u' u'' : gt_M} (h : fG g u u') (k : fG g u' u'') : fG g u u'' := ⟨fun b h1 h2 => by rw [k.1 b h1 h2, h.1 b h1 h2], fun o ho => by rw [k.2 o ho, h.2 o ho]⟩
theorem fG_set {g o : Nat} {u u' : gt_M} {x : Int32} (h : fG g u u') (ho : o < 69) : fG g u (gt_set u' g o x) := ⟨fun b h1 h2 => by rw [gs_rowne h1, h.1 b h1 h2], fun k hk => by rw [gs_row, wS_miss (by omega), h.2 k hk]⟩
theorem fG_6 {g : Nat} {u u' : gt_M} (hg : g < 3) (h : ∀ b, b ≠ 6 → u' b = u b) : fG g u u' := ⟨fun b _ h2 => h b h2, fun o _ => by rw [h g (by omega)]⟩
abbrev gT : Type := Nat → Option (Int32 → Int32 → Int32 → Int32)
def cT (u : gt_M) (g : Nat) (T : gT) : Prop := ∀ j, j < 3 → (T j = none ∧ u g (69 + j) = -1000000005) ∨ (∃ t n, T j = some (gv (u (21 + t)) n) ∧ t < 15 ∧ n ≤ 96 ∧ u g (69 + j) = nI t ∧ u 3 t = nI n)
theorem cT_fG {u u' : gt_M} {g : Nat} {T : gT} (hg : g < 3) (h : cT u g T) (f : fG g u u') : cT u' g T := by
  intro j hj
  rcases h j hj with ⟨h1, h2⟩ | ⟨t, n, h1, h2, h3, h4, h5⟩
  · exact .inl ⟨h1, by rw [f.2 _ (by omega), h2]⟩
  · exact .inr ⟨t, n, by rw [f.1 (21 + t) (by omega) (by omega)]; exact h1, h2, h3, by rw [f.2 _ (by omega), h4], by rw [f.1 3 (by omega) (by omega), h5]⟩
theorem nn_NONE {t : Nat} (h : t < 2147483648) : (nI t = -1000000005) = False := by
  apply eq_false
  intro y
  have z := congrArg Int32.toInt y
  rw [nI_toInt (by omega)] at z
  have : (-1000000005 : Int32).toInt = -1000000005 := by decide
  omega
theorem hd_nn {x y : Int32} : nI 0 ≤ hdI x y := by
  unfold hdI mxI
  split
  · rename_i h; exact Int32.le_of_lt h
  · exact Int32.le_refl _
def pPl (T : gT) (w : Nat → Int32) (i r : Nat) : Int32 := match T 0 with
  | none => nI (10 * r)
  | some f => hdI (f (nI r) (w (13 + 4 * i + 1)) (w (13 + 4 * i + 2))) (nI 999)
def pCa (T : gT) (w : Nat → Int32) (i r : Nat) : Int32 := pKc (w (13 + 4 * i + 0)) (pPl T w i r)
def pLs (T : gT) (w : Nat → Int32) (i : Nat) : Int32 := pKl (w (13 + 4 * i + 0)) (hdI (match T 1 with
  | none => w (13 + 4 * i + 2) / nI 50 + nI 1
  | some f => f (w (13 + 4 * i + 2)) (w (13 + 4 * i + 1)) (w 1)) (w (13 + 4 * i + 2)))
def pFa (T : gT) (r : Nat) : Nat → Nat → (Nat → Int32) → Int32 → (Nat → Int32) × Int32
  | 0, _, w, o => (wS w 7 (w 7 + o), o)
  | k + 1, i, w, o => pFa T r k (i + 1) (wS (wS w 6 (w 6 + pCa T w i r)) (13 + 4 * i + 2) (mnI (w (13 + 4 * i + 2) + pCa T w i r + o) (w (13 + 4 * i + 1)))) (w (13 + 4 * i + 2) + pCa T w i r + o - mnI (w (13 + 4 * i + 2) + pCa T w i r + o) (w (13 + 4 * i + 1)))
def pLo (T : gT) : Nat → Nat → (Nat → Int32) → (Nat → Int32)
  | 0, _, w => w
  | k + 1, i, w => pLo T k (i + 1) (wS (wS w (13 + 4 * i + 2) (w (13 + 4 * i + 2) - pLs T w i)) 8 (w 8 + pLs T w i))
def pDb (w : Nat → Int32) (i : Nat) : Int32 := mxI (nI 0) (w (13 + 4 * i + 2) - w (13 + 4 * i + 3))
def pDr : Nat → Nat → (Nat → Int32) → Int32 → (Nat → Int32) × Int32
  | 0, _, w, mi => (w, mi)
  | k + 1, i, w, mi => pDr k (i + 1) (wS w (13 + 4 * i + 2) (w (13 + 4 * i + 2) - mnI mi (pDb w i))) (mi - mnI mi (pDb w i))
def pBo (w : Nat → Int32) (mi : Int32) : Int32 := if w 4 = nI 1 then mi else nI 0
def pW3 (w : Nat → Int32) (j : Nat) (mi : Int32) : Nat → Int32 := wS (wS (wS w (45 + 3 * j + 1) (w (45 + 3 * j + 1) + (w (45 + 3 * j + 0) - mi + pBo w mi))) 9 (w 9 + pBo w mi)) (45 + 3 * j + 2) (w (45 + 3 * j + 2) + (mi - pBo w mi))
def pWa (n : Nat) (w : Nat → Int32) (j : Nat) : Nat → Int32 := pW3 (pDr n 0 w (w (45 + 3 * j + 0))).1 j (pDr n 0 w (w (45 + 3 * j + 0))).2
def pWb (n : Nat) : Nat → Nat → (Nat → Int32) → (Nat → Int32)
  | 0, _, w => w
  | k + 1, j, w => pWb n k (j + 1) (pWa n w j)
def shI (x : Int32) : Int32 := (x.toUInt32 >>> ((nI 8).toUInt32 &&& Int32.toUInt32 31)).toInt32
def dwZ (z : Int32) : Int32 := z * nI 1103515245 + nI 12345
def dwX (z : Int32) (k : Nat) : Int32 := shI z - shI z / nI k * nI k
theorem pFa_keep {T : gT} {r : Nat} {o : Nat} (h2 : ∀ j, j < 8 → o ≠ 13 + 4 * j + 2) (h6 : o ≠ 6) (h7 : o ≠ 7) : ∀ (k i : Nat) (w : Nat → Int32) (x : Int32), i + k ≤ 8 → (pFa T r k i w x).1 o = w o := by
  intro k
  induction k with
  | zero => intro i w x _; exact wS_miss h7
  | succ k ih => intro i w x hk; rw [pFa, ih _ _ _ (by omega), wS_miss (h2 i (by omega)), wS_miss h6]
theorem pLo_keep {T : gT} {o : Nat} (h2 : ∀ j, j < 8 → o ≠ 13 + 4 * j + 2) (h8 : o ≠ 8) : ∀ (k i : Nat) (w : Nat → Int32), i + k ≤ 8 → pLo T k i w o = w o := by
  intro k
  induction k with
  | zero => intro i w _; rfl
  | succ k ih => intro i w hk; rw [pLo, ih _ _ (by omega), wS_miss h8, wS_miss (h2 i (by omega))]
theorem pDr_keep {o : Nat} (h2 : ∀ j, j < 8 → o ≠ 13 + 4 * j + 2) : ∀ (k i : Nat) (w : Nat → Int32) (x : Int32), i + k ≤ 8 → (pDr k i w x).1 o = w o := by
  intro k
  induction k with
  | zero => intro i w x _; rfl
  | succ k ih => intro i w x hk; rw [pDr, ih _ _ _ (by omega), wS_miss (h2 i (by omega))]
theorem pWa_keep {n o j : Nat} (hn : n ≤ 8) (h2 : ∀ j, j < 8 → o ≠ 13 + 4 * j + 2) (h9 : o ≠ 9) (h3 : o ≠ 45 + 3 * j + 1 ∧ o ≠ 45 + 3 * j + 2) {w : Nat → Int32} : pWa n w j o = w o := by
  rw [pWa, pW3, wS_miss h3.2, wS_miss h9, wS_miss h3.1, pDr_keep h2 _ _ _ _ (by omega)]
theorem pWb_keep {n o : Nat} (hn : n ≤ 8) (h2 : ∀ j, j < 8 → o ≠ 13 + 4 * j + 2) (h9 : o ≠ 9) (h3 : ∀ j, j < 8 → o ≠ 45 + 3 * j + 1 ∧ o ≠ 45 + 3 * j + 2) : ∀ (k j : Nat) (w : Nat → Int32), j + k ≤ 8 → pWb n k j w o = w o := by
  intro k
  induction k with
  | zero => intro j w _; rfl
  | succ k ih => intro j w hk; rw [pWb, ih _ _ (by omega), pWa_keep hn h2 h9 (h3 j (by omega))]
theorem wS_same {w : Nat → Int32} {o : Nat} : wS w o (w o) = w := by
  funext k
  unfold wS
  split
  · rename_i h; rw [h]
  · rfl
theorem mn0 {x : Int32} : mnI (nI 0) (mxI (nI 0) x) = nI 0 := by
  unfold mnI
  rw [if_neg]
  intro y
  have : nI 0 ≤ mxI (nI 0) x := by
    unfold mxI
    split
    · rename_i h; exact Int32.le_of_lt h
    · exact Int32.le_refl _
  exact absurd y (Int32.not_lt.mpr this)
theorem sub0 {x : Int32} : x - nI 0 = x := Int32.sub_zero x
theorem pDr_0 : ∀ (k i : Nat) (w : Nat → Int32), pDr k i w (nI 0) = (w, nI 0) := by
  intro k
  induction k with
  | zero => intro i w; rfl
  | succ k ih =>
    intro i w
    rw [pDr, pDb, mn0, sub0, sub0, wS_same, ih]
theorem dr_nn {x y : Int32} (h : nI 0 ≤ x) : nI 0 ≤ x - mnI x (mxI (nI 0) y) := by
  have h0 : (nI 0).toInt = 0 := nI_toInt (by omega)
  rw [le_toInt, h0] at h
  have hh := hi_toInt x
  have e1 : (mxI (nI 0) y).toInt = if 0 < y.toInt then y.toInt else 0 := by rw [mx_toInt, h0]
  have e2 : (mnI x (mxI (nI 0) y)).toInt = if (if 0 < y.toInt then y.toInt else 0) < x.toInt then (if 0 < y.toInt then y.toInt else 0) else x.toInt := by rw [mn_toInt, e1]
  rw [le_toInt, h0, sub_toInt, e2]
  · split <;> (try split) <;> omega
  · rw [e2]; split <;> (try split) <;> omega
  · rw [e2]; split <;> (try split) <;> omega
theorem subsub {x y : Int32} : x - (x - y) = y := by grind
section C21
variable {X : List Int32} {d g i r n m : Nat} {u : gt_M} {w : Nat → Int32} {T : gT}
theorem pPl_nn (hr : r ≤ 9) : nI 0 ≤ pPl T w i r := by
  unfold pPl
  split
  · rw [L_le (by omega) (by omega)]; omega
  · exact hd_nn
theorem c_catchOf (hg : g < 3) (hn8 : n ≤ 8) (hi : i < n) (hr : r ≤ 9) (hR : gR u g w n m) (hT : cT u g T) : ∃ u', gm_cl' X (d + 2) 17 [.ref (zGC g), .ref (zBC g i), .int (nI r)] (gt_h u) = some (some (.int (pCa T w i r)), gt_h u') ∧ ∀ b', b' ≠ 6 → u' b' = u b' := by
  have hp := pPl_nn (T := T) (w := w) (i := i) hr
  unfold pCa
  unfold pPl at hp ⊢
  rw [cl_17]
  unfold gR at hR
  rcases hT 0 (by omega) with ⟨h1, h2⟩ | ⟨t, k, h1, h2, h3, h4, h5⟩
  · refine ⟨u, ?_, fun _ _ => rfl⟩
    rw [h1] at hp ⊢
    have e := c_kc (X := X) (d := d) (u := u) hg (show i < 8 by omega) hp
    simp -implicitDefEqProofs (disch := first | (with_reducible first | exact rt_17 | exact na_54 | exact k_1.trans mc_54.symm | exact na_108 | exact na_6 | exact c1_i | exact c1_r | exact of_eq_false nf_zGC | exact of_eq_false nf_zBA | exact of_eq_false nf_zDA | exact of_eq_false nf_zCA | exact of_eq_false nf_zBC | exact of_eq_false nf_zDC | exact of_eq_false nf_zSC | exact of_eq_false nf_zSP | exact of_eq_false nf_zLC | exact of_eq_false nf_zLB | exact of_eq_false nf_zLS | exact of_eq_false nf_zLP | exact of_eq_false nf_zTR) | ((with_reducible refine (k_zBC ?_ ?_).trans mc_6.symm) <;> omega) | ((with_reducible refine (k_zLB ?_).trans mc_6.symm) <;> omega) | omega | exact Nat.le_of_ble_eq_true rfl | ((with_reducible refine nI_ne0 ?_ ?_) <;> omega)) only [bk_17_0, tn_0, bl_al0, bf_zGC_3, bl_c0, ba_zCA, ba_zTR, ba_zSP, ba_zLP, ba_18, ba_19, ba_20, ba_21, ba_83, ba_87, ba_117, ba_118, ba_119, ba_120, ba_123, ba_124, ba_125, ba_126, ba_127, ba_128, ba_129, ba_130, ba_131, ba_132, bl_is3, bl_il3, bl_cm1000000005, bl_ic_ne, bl_c10, bl_il2, bl_imul, bl_goto, bk_17_20, tn_20, bf_zGC_0, bl_al1, bf_zBC_1, bf_zLB_1, bf_zBC_2, bf_zLB_2, bl_iv5, bl_c999, bl_ii_2, bk_17_43, tn_43, bl_is4, bl_il4, bl_iv2, bl_ri, bl_rz, bl_rz1, bl_rz0, Option.bind_some, Option.bind_none, Option.toList_some, Option.toList_none, List.cons_append, List.nil_append, not_false_eq_true, not_true_eq_false, nI_10, nI_00, bI_0, bI_n0, if_true, if_false, true_and, and_true, and_false, false_and, Classical.not_not, ↓reduceIte, eq_self, Nat.reduceAdd, Nat.reduceMul, bl_nil, z_lt, z_le, z_gt, z_ge, nI_add, nI_mul, nI_sub, L_lt, L_le, L_eq, L_e0, N_ltT, N_ltF, N_leT, N_leF, N_eqT, N_eqF, gs_hit, gs_miss, h2, e, hR]
  · rw [h1] at hp ⊢
    obtain ⟨u', e, f⟩ := c_gives (X := X) (d := d) (u := u) (s := u (21 + t)) (a := nI r) (b := w (13 + 4 * i + 1)) (c := w (13 + 4 * i + 2)) h2 h3 h5 (fun _ _ => rfl)
    refine ⟨u', ?_, f⟩
    have e2 := c_kc (X := X) (d := d) (u := u') hg (show i < 8 by omega) hp
    have fg := f g (by omega)
    simp -implicitDefEqProofs (disch := first | (with_reducible first | exact rt_17 | exact na_54 | exact k_1.trans mc_54.symm | exact na_108 | exact na_6 | exact c1_i | exact c1_r | exact of_eq_false nf_zGC | exact of_eq_false nf_zBA | exact of_eq_false nf_zDA | exact of_eq_false nf_zCA | exact of_eq_false nf_zBC | exact of_eq_false nf_zDC | exact of_eq_false nf_zSC | exact of_eq_false nf_zSP | exact of_eq_false nf_zLC | exact of_eq_false nf_zLB | exact of_eq_false nf_zLS | exact of_eq_false nf_zLP | exact of_eq_false nf_zTR) | ((with_reducible refine (k_zBC ?_ ?_).trans mc_6.symm) <;> omega) | ((with_reducible refine (k_zLB ?_).trans mc_6.symm) <;> omega) | omega | exact Nat.le_of_ble_eq_true rfl | ((with_reducible refine nI_ne0 ?_ ?_) <;> omega)) only [bk_17_0, tn_0, bl_al0, bf_zGC_3, bl_c0, ba_zCA, ba_zTR, ba_zSP, ba_zLP, ba_18, ba_19, ba_20, ba_21, ba_83, ba_87, ba_117, ba_118, ba_119, ba_120, ba_123, ba_124, ba_125, ba_126, ba_127, ba_128, ba_129, ba_130, ba_131, ba_132, bl_is3, bl_il3, bl_cm1000000005, bl_ic_ne, bl_c10, bl_il2, bl_imul, bl_goto, bk_17_20, tn_20, bf_zGC_0, bl_al1, bf_zBC_1, bf_zLB_1, bf_zBC_2, bf_zLB_2, bl_iv5, bl_c999, bl_ii_2, bk_17_43, tn_43, bl_is4, bl_il4, bl_iv2, bl_ri, bl_rz, bl_rz1, bl_rz0, Option.bind_some, Option.bind_none, Option.toList_some, Option.toList_none, List.cons_append, List.nil_append, not_false_eq_true, not_true_eq_false, nI_10, nI_00, bI_0, bI_n0, if_true, if_false, true_and, and_true, and_false, false_and, Classical.not_not, ↓reduceIte, eq_self, Nat.reduceAdd, Nat.reduceMul, bl_nil, z_lt, z_le, z_gt, z_ge, nI_add, nI_mul, nI_sub, L_lt, L_le, L_eq, L_e0, N_ltT, N_ltF, N_leT, N_leF, N_eqT, N_eqF, gs_hit, gs_miss, h4, e, hR, nn_NONE, c_held, e2, fg]
theorem c_lossOf (hg : g < 3) (hn8 : n ≤ 8) (hi : i < n) (hR : gR u g w n m) (hT : cT u g T) : ∃ u', gm_cl' X (d + 2) 19 [.ref (zGC g), .ref (zBC g i)] (gt_h u) = some (some (.int (pLs T w i)), gt_h u') ∧ ∀ b', b' ≠ 6 → u' b' = u b' := by
  unfold pLs
  rw [cl_19]
  unfold gR at hR
  rcases hT 1 (by omega) with ⟨h1, h2⟩ | ⟨t, k, h1, h2, h3, h4, h5⟩
  · refine ⟨u, ?_, fun _ _ => rfl⟩
    rw [h1]
    simp -implicitDefEqProofs (disch := first | (with_reducible first | exact rt_19 | exact na_54 | exact k_1.trans mc_54.symm | exact na_108 | exact na_7 | exact c1_i | exact c1_r | exact of_eq_false nf_zGC | exact of_eq_false nf_zBA | exact of_eq_false nf_zDA | exact of_eq_false nf_zCA | exact of_eq_false nf_zBC | exact of_eq_false nf_zDC | exact of_eq_false nf_zSC | exact of_eq_false nf_zSP | exact of_eq_false nf_zLC | exact of_eq_false nf_zLB | exact of_eq_false nf_zLS | exact of_eq_false nf_zLP | exact of_eq_false nf_zTR) | ((with_reducible refine (k_zBC ?_ ?_).trans mc_7.symm) <;> omega) | ((with_reducible refine (k_zLB ?_).trans mc_7.symm) <;> omega) | omega | exact Nat.le_of_ble_eq_true rfl | ((with_reducible refine nI_ne0 ?_ ?_) <;> omega)) only [bk_19_0, tn_0, bl_al0, bf_zGC_3, bl_c1, ba_zCA, ba_zTR, ba_zSP, ba_zLP, ba_18, ba_19, ba_20, ba_21, ba_83, ba_87, ba_117, ba_118, ba_119, ba_120, ba_123, ba_124, ba_125, ba_126, ba_127, ba_128, ba_129, ba_130, ba_131, ba_132, bl_is2, bl_il2, bl_cm1000000005, bl_ic_ne, bl_al1, bf_zBC_2, bf_zLB_2, bl_c50, bl_idiv, bl_iadd, bl_goto, bk_19_25, tn_25, bf_zGC_0, bf_zBC_1, bf_zLB_1, bf_zGC_15, bl_iv5, bk_19_45, tn_45, bl_is3, bl_il3, bl_ii_2, bl_iv2, bl_ri, bl_rz, bl_rz1, bl_rz0, Option.bind_some, Option.bind_none, Option.toList_some, Option.toList_none, List.cons_append, List.nil_append, not_false_eq_true, not_true_eq_false, nI_10, nI_00, bI_0, bI_n0, if_true, if_false, true_and, and_true, and_false, false_and, Classical.not_not, ↓reduceIte, eq_self, Nat.reduceAdd, Nat.reduceMul, bl_nil, z_lt, z_le, z_gt, z_ge, nI_add, nI_mul, nI_sub, L_lt, L_le, L_eq, L_e0, N_ltT, N_ltF, N_leT, N_leF, N_eqT, N_eqF, gs_hit, gs_miss, h2, c_kl, c_held, hR]
  · rw [h1]
    obtain ⟨u', e, f⟩ := c_gives (X := X) (d := d) (u := u) (s := u (21 + t)) (a := w (13 + 4 * i + 2)) (b := w (13 + 4 * i + 1)) (c := w 1) h2 h3 h5 (fun _ _ => rfl)
    refine ⟨u', ?_, f⟩
    have fg := f g (by omega)
    simp -implicitDefEqProofs (disch := first | (with_reducible first | exact rt_19 | exact na_54 | exact k_1.trans mc_54.symm | exact na_108 | exact na_7 | exact c1_i | exact c1_r | exact of_eq_false nf_zGC | exact of_eq_false nf_zBA | exact of_eq_false nf_zDA | exact of_eq_false nf_zCA | exact of_eq_false nf_zBC | exact of_eq_false nf_zDC | exact of_eq_false nf_zSC | exact of_eq_false nf_zSP | exact of_eq_false nf_zLC | exact of_eq_false nf_zLB | exact of_eq_false nf_zLS | exact of_eq_false nf_zLP | exact of_eq_false nf_zTR) | ((with_reducible refine (k_zBC ?_ ?_).trans mc_7.symm) <;> omega) | ((with_reducible refine (k_zLB ?_).trans mc_7.symm) <;> omega) | omega | exact Nat.le_of_ble_eq_true rfl | ((with_reducible refine nI_ne0 ?_ ?_) <;> omega)) only [bk_19_0, tn_0, bl_al0, bf_zGC_3, bl_c1, ba_zCA, ba_zTR, ba_zSP, ba_zLP, ba_18, ba_19, ba_20, ba_21, ba_83, ba_87, ba_117, ba_118, ba_119, ba_120, ba_123, ba_124, ba_125, ba_126, ba_127, ba_128, ba_129, ba_130, ba_131, ba_132, bl_is2, bl_il2, bl_cm1000000005, bl_ic_ne, bl_al1, bf_zBC_2, bf_zLB_2, bl_c50, bl_idiv, bl_iadd, bl_goto, bk_19_25, tn_25, bf_zGC_0, bf_zBC_1, bf_zLB_1, bf_zGC_15, bl_iv5, bk_19_45, tn_45, bl_is3, bl_il3, bl_ii_2, bl_iv2, bl_ri, bl_rz, bl_rz1, bl_rz0, Option.bind_some, Option.bind_none, Option.toList_some, Option.toList_none, List.cons_append, List.nil_append, not_false_eq_true, not_true_eq_false, nI_10, nI_00, bI_0, bI_n0, if_true, if_false, true_and, and_true, and_false, false_and, Classical.not_not, ↓reduceIte, eq_self, Nat.reduceAdd, Nat.reduceMul, bl_nil, z_lt, z_le, z_gt, z_ge, nI_add, nI_mul, nI_sub, L_lt, L_le, L_eq, L_e0, N_ltT, N_ltF, N_leT, N_leF, N_eqT, N_eqF, gs_hit, gs_miss, h4, e, hR, nn_NONE, c_held, c_kl, fg]
theorem c_rainL (hg : g < 3) (hn8 : n ≤ 8) (hr : r ≤ 9) : ∀ (k i : Nat) (u : gt_M) (w : Nat → Int32) (o : Int32) (v4 v5 v6 : Value), i + k = n → gR u g w n m → w 10 = nI n → cT u g T → ∃ u', gm_ev X (d + 3) 16 4 [.ref (zGC g), .int (nI r), .int o, .int (nI i), v4, v5, v6] [] (gt_h u) = some (some (.int (pFa T r k i w o).2), gt_h u') ∧ gR u' g (pFa T r k i w o).1 n m ∧ fG g u u' := by
  intro k
  induction k with
  | zero =>
    intro i u w o v4 v5 v6 hk hR hn hT
    refine ⟨gt_set u g 7 (w 7 + o), ?_, gR_set hR, fG_set fG_refl (by omega)⟩
    rw [bk_16_4]
    unfold gR at hR
    simp -implicitDefEqProofs (disch := first | (with_reducible first | exact rt_16 | exact na_17 | exact na_221 | exact c1_i | exact c1_r | exact of_eq_false nf_zGC | exact of_eq_false nf_zBA | exact of_eq_false nf_zDA | exact of_eq_false nf_zCA | exact of_eq_false nf_zBC | exact of_eq_false nf_zDC | exact of_eq_false nf_zSC | exact of_eq_false nf_zSP | exact of_eq_false nf_zLC | exact of_eq_false nf_zLB | exact of_eq_false nf_zLS | exact of_eq_false nf_zLP | exact of_eq_false nf_zTR) | ((with_reducible refine (k_zGC ?_).trans mc_17.symm) <;> omega) | omega | exact Nat.le_of_ble_eq_true rfl | ((with_reducible refine nI_ne0 ?_ ?_) <;> omega)) only [bk_16_0, tn_0, bl_c0, bl_is2, bl_is3, tn_4, bl_il3, bl_al0, bf_zGC_4, bl_ic_ge, bf_zGC_1, br_zBA, br_zDA, br_2, br_85, br_86, br_121, br_122, bl_as4, bl_al4, bl_il1, bl_iv3, bl_is5, bl_dupi, bl_dupr, bf_zGC_11, bl_il5, bl_iadd, bpf_zGC_11, bf_zBC_2, bf_zLB_2, bl_il2, bl_is6, bl_il6, bf_zBC_1, bf_zLB_1, bl_is_2, bpf_zBC_2, bpf_zLB_2, bl_isub, bl_in3_1, bl_goto, bk_16_82, tn_82, bf_zGC_12, bpf_zGC_12, bl_ri, bl_rz, bl_rz1, bl_rz0, Option.bind_some, Option.bind_none, Option.toList_some, Option.toList_none, List.cons_append, List.nil_append, not_false_eq_true, not_true_eq_false, nI_10, nI_00, bI_0, bI_n0, if_true, if_false, true_and, and_true, and_false, false_and, Classical.not_not, ↓reduceIte, eq_self, Nat.reduceAdd, Nat.reduceMul, bl_nil, z_lt, z_le, z_gt, z_ge, nI_add, nI_mul, nI_sub, L_lt, L_le, L_eq, L_e0, N_ltT, N_ltF, N_leT, N_leF, N_eqT, N_eqF, gs_hit, gs_miss, hR, hn, pFa]
  | succ k ih =>
    intro i u w o v4 v5 v6 hk hR hn hT
    obtain ⟨u1, e1, f1⟩ := c_catchOf (X := X) (d := d) hg hn8 (show i < n by omega) hr hR hT
    have f1g := f1 g (by omega)
    have hF := fG_set (o := 13 + 4 * i + 2) (x := mnI (w (13 + 4 * i + 2) + pCa T w i r + o) (w (13 + 4 * i + 1))) (fG_set (o := 6) (x := w 6 + pCa T w i r) (fG_6 hg f1) (by omega)) (by omega)
    obtain ⟨u', e, hR', hF'⟩ := ih (i + 1) (gt_set (gt_set u1 g 6 (w 6 + pCa T w i r)) g (13 + 4 * i + 2) (mnI (w (13 + 4 * i + 2) + pCa T w i r + o) (w (13 + 4 * i + 1)))) (wS (wS w 6 (w 6 + pCa T w i r)) (13 + 4 * i + 2) (mnI (w (13 + 4 * i + 2) + pCa T w i r + o) (w (13 + 4 * i + 1)))) (w (13 + 4 * i + 2) + pCa T w i r + o - mnI (w (13 + 4 * i + 2) + pCa T w i r + o) (w (13 + 4 * i + 1))) (.ref (zBC g i)) (.int (pCa T w i r)) (.int (w (13 + 4 * i + 2) + pCa T w i r + o)) (by omega) (gR_set (gR_set (gR_eq hR f1g))) (by rw [wS_miss (by omega), wS_miss (by omega)]; exact hn) (cT_fG hg hT hF)
    refine ⟨u', ?_, hR', fG_trans hF hF'⟩
    rw [pFa, ← e, bk_16_4]
    unfold gR at hR
    simp -implicitDefEqProofs (disch := first | (with_reducible first | exact rt_16 | exact na_17 | exact na_221 | exact c1_i | exact c1_r | exact of_eq_false nf_zGC | exact of_eq_false nf_zBA | exact of_eq_false nf_zDA | exact of_eq_false nf_zCA | exact of_eq_false nf_zBC | exact of_eq_false nf_zDC | exact of_eq_false nf_zSC | exact of_eq_false nf_zSP | exact of_eq_false nf_zLC | exact of_eq_false nf_zLB | exact of_eq_false nf_zLS | exact of_eq_false nf_zLP | exact of_eq_false nf_zTR) | ((with_reducible refine (k_zGC ?_).trans mc_17.symm) <;> omega) | omega | exact Nat.le_of_ble_eq_true rfl | ((with_reducible refine nI_ne0 ?_ ?_) <;> omega)) only [bk_16_0, tn_0, bl_c0, bl_is2, bl_is3, tn_4, bl_il3, bl_al0, bf_zGC_4, bl_ic_ge, bf_zGC_1, br_zBA, br_zDA, br_2, br_85, br_86, br_121, br_122, bl_as4, bl_al4, bl_il1, bl_iv3, bl_is5, bl_dupi, bl_dupr, bf_zGC_11, bl_il5, bl_iadd, bpf_zGC_11, bf_zBC_2, bf_zLB_2, bl_il2, bl_is6, bl_il6, bf_zBC_1, bf_zLB_1, bl_is_2, bpf_zBC_2, bpf_zLB_2, bl_isub, bl_in3_1, bl_goto, bk_16_82, tn_82, bf_zGC_12, bpf_zGC_12, bl_ri, bl_rz, bl_rz1, bl_rz0, Option.bind_some, Option.bind_none, Option.toList_some, Option.toList_none, List.cons_append, List.nil_append, not_false_eq_true, not_true_eq_false, nI_10, nI_00, bI_0, bI_n0, if_true, if_false, true_and, and_true, and_false, false_and, Classical.not_not, ↓reduceIte, eq_self, Nat.reduceAdd, Nat.reduceMul, bl_nil, z_lt, z_le, z_gt, z_ge, nI_add, nI_mul, nI_sub, L_lt, L_le, L_eq, L_e0, N_ltT, N_ltF, N_leT, N_leF, N_eqT, N_eqF, gs_hit, gs_miss, hR, hn, e1, f1g, c_min]
theorem c_rain (hg : g < 3) (hn8 : n ≤ 8) (hr : r ≤ 9) (hR : gR u g w n m) (hn : w 10 = nI n) (hT : cT u g T) : ∃ u', gm_cl' X (d + 3) 16 [.ref (zGC g), .int (nI r)] (gt_h u) = some (some (.int (pFa T r n 0 w (nI 0)).2), gt_h u') ∧ gR u' g (pFa T r n 0 w (nI 0)).1 n m ∧ fG g u u' := by
  obtain ⟨u', e, h1, h2⟩ := c_rainL (X := X) (d := d) (m := m) (T := T) hg hn8 hr n 0 u w (nI 0) (.retAddr 0) (.retAddr 0) (.retAddr 0) (by omega) hR hn hT
  refine ⟨u', ?_, h1, h2⟩
  rw [← e, cl_16]
  simp -implicitDefEqProofs (disch := first | (with_reducible first | exact rt_16 | exact na_17 | exact na_221 | exact c1_i | exact c1_r | exact of_eq_false nf_zGC | exact of_eq_false nf_zBA | exact of_eq_false nf_zDA | exact of_eq_false nf_zCA | exact of_eq_false nf_zBC | exact of_eq_false nf_zDC | exact of_eq_false nf_zSC | exact of_eq_false nf_zSP | exact of_eq_false nf_zLC | exact of_eq_false nf_zLB | exact of_eq_false nf_zLS | exact of_eq_false nf_zLP | exact of_eq_false nf_zTR) | ((with_reducible refine (k_zGC ?_).trans mc_17.symm) <;> omega) | omega | exact Nat.le_of_ble_eq_true rfl | ((with_reducible refine nI_ne0 ?_ ?_) <;> omega)) only [bk_16_0, tn_0, bl_c0, bl_is2, bl_is3, tn_4, bl_il3, bl_al0, bf_zGC_4, bl_ic_ge, bf_zGC_1, br_zBA, br_zDA, br_2, br_85, br_86, br_121, br_122, bl_as4, bl_al4, bl_il1, bl_iv3, bl_is5, bl_dupi, bl_dupr, bf_zGC_11, bl_il5, bl_iadd, bpf_zGC_11, bf_zBC_2, bf_zLB_2, bl_il2, bl_is6, bl_il6, bf_zBC_1, bf_zLB_1, bl_is_2, bpf_zBC_2, bpf_zLB_2, bl_isub, bl_in3_1, bl_goto, bk_16_82, tn_82, bf_zGC_12, bpf_zGC_12, bl_ri, bl_rz, bl_rz1, bl_rz0, Option.bind_some, Option.bind_none, Option.toList_some, Option.toList_none, List.cons_append, List.nil_append, not_false_eq_true, not_true_eq_false, nI_10, nI_00, bI_0, bI_n0, if_true, if_false, true_and, and_true, and_false, false_and, Classical.not_not, ↓reduceIte, eq_self, Nat.reduceAdd, Nat.reduceMul, bl_nil, z_lt, z_le, z_gt, z_ge, nI_add, nI_mul, nI_sub, L_lt, L_le, L_eq, L_e0, N_ltT, N_ltF, N_leT, N_leF, N_eqT, N_eqF, gs_hit, gs_miss]
theorem c_loseL (hg : g < 3) (hn8 : n ≤ 8) : ∀ (k i : Nat) (u : gt_M) (w : Nat → Int32) (v2 v3 : Value), i + k = n → gR u g w n m → w 10 = nI n → cT u g T → ∃ u', gm_ev X (d + 3) 18 2 [.ref (zGC g), .int (nI i), v2, v3] [] (gt_h u) = some (none, gt_h u') ∧ gR u' g (pLo T k i w) n m ∧ fG g u u' := by
  intro k
  induction k with
  | zero =>
    intro i u w v2 v3 hk hR hn hT
    refine ⟨u, ?_, hR, fG_refl⟩
    rw [bk_18_2]
    unfold gR at hR
    simp -implicitDefEqProofs (disch := first | (with_reducible first | exact rt_18 | exact na_19 | exact c1_i | exact c1_r | exact of_eq_false nf_zGC | exact of_eq_false nf_zBA | exact of_eq_false nf_zDA | exact of_eq_false nf_zCA | exact of_eq_false nf_zBC | exact of_eq_false nf_zDC | exact of_eq_false nf_zSC | exact of_eq_false nf_zSP | exact of_eq_false nf_zLC | exact of_eq_false nf_zLB | exact of_eq_false nf_zLS | exact of_eq_false nf_zLP | exact of_eq_false nf_zTR) | ((with_reducible refine (k_zGC ?_).trans mc_19.symm) <;> omega) | omega | exact Nat.le_of_ble_eq_true rfl | ((with_reducible refine nI_ne0 ?_ ?_) <;> omega)) only [bk_18_0, tn_0, bl_c0, bl_is1, tn_2, bl_il1, bl_al0, bf_zGC_4, bl_ic_ge, bf_zGC_1, br_zBA, br_zDA, br_2, br_85, br_86, br_121, br_122, bl_as2, bl_al2, bl_iv2, bl_is3, bl_dupi, bl_dupr, bf_zBC_2, bf_zLB_2, bl_il3, bl_isub, bpf_zBC_2, bpf_zLB_2, bf_zGC_13, bl_iadd, bpf_zGC_13, bl_in1_1, bl_goto, bk_18_49, tn_49, bl_rv, Option.bind_some, Option.bind_none, Option.toList_some, Option.toList_none, List.cons_append, List.nil_append, not_false_eq_true, not_true_eq_false, nI_10, nI_00, bI_0, bI_n0, if_true, if_false, true_and, and_true, and_false, false_and, Classical.not_not, ↓reduceIte, eq_self, Nat.reduceAdd, Nat.reduceMul, bl_nil, z_lt, z_le, z_gt, z_ge, nI_add, nI_mul, nI_sub, L_lt, L_le, L_eq, L_e0, N_ltT, N_ltF, N_leT, N_leF, N_eqT, N_eqF, gs_hit, gs_miss, hR, hn]
  | succ k ih =>
    intro i u w v2 v3 hk hR hn hT
    obtain ⟨u1, e1, f1⟩ := c_lossOf (X := X) (d := d) hg hn8 (show i < n by omega) hR hT
    have f1g := f1 g (by omega)
    have hF := fG_set (o := 8) (x := w 8 + pLs T w i) (fG_set (o := 13 + 4 * i + 2) (x := w (13 + 4 * i + 2) - pLs T w i) (fG_6 hg f1) (by omega)) (by omega)
    obtain ⟨u', e, hR', hF'⟩ := ih (i + 1) (gt_set (gt_set u1 g (13 + 4 * i + 2) (w (13 + 4 * i + 2) - pLs T w i)) g 8 (w 8 + pLs T w i)) _ (.ref (zBC g i)) (.int (pLs T w i)) (by omega) (gR_set (gR_set (gR_eq hR f1g))) (by rw [wS_miss (by omega), wS_miss (by omega)]; exact hn) (cT_fG hg hT hF)
    refine ⟨u', ?_, hR', fG_trans hF hF'⟩
    rw [← e, bk_18_2]
    unfold gR at hR
    simp -implicitDefEqProofs (disch := first | (with_reducible first | exact rt_18 | exact na_19 | exact c1_i | exact c1_r | exact of_eq_false nf_zGC | exact of_eq_false nf_zBA | exact of_eq_false nf_zDA | exact of_eq_false nf_zCA | exact of_eq_false nf_zBC | exact of_eq_false nf_zDC | exact of_eq_false nf_zSC | exact of_eq_false nf_zSP | exact of_eq_false nf_zLC | exact of_eq_false nf_zLB | exact of_eq_false nf_zLS | exact of_eq_false nf_zLP | exact of_eq_false nf_zTR) | ((with_reducible refine (k_zGC ?_).trans mc_19.symm) <;> omega) | omega | exact Nat.le_of_ble_eq_true rfl | ((with_reducible refine nI_ne0 ?_ ?_) <;> omega)) only [bk_18_0, tn_0, bl_c0, bl_is1, tn_2, bl_il1, bl_al0, bf_zGC_4, bl_ic_ge, bf_zGC_1, br_zBA, br_zDA, br_2, br_85, br_86, br_121, br_122, bl_as2, bl_al2, bl_iv2, bl_is3, bl_dupi, bl_dupr, bf_zBC_2, bf_zLB_2, bl_il3, bl_isub, bpf_zBC_2, bpf_zLB_2, bf_zGC_13, bl_iadd, bpf_zGC_13, bl_in1_1, bl_goto, bk_18_49, tn_49, bl_rv, Option.bind_some, Option.bind_none, Option.toList_some, Option.toList_none, List.cons_append, List.nil_append, not_false_eq_true, not_true_eq_false, nI_10, nI_00, bI_0, bI_n0, if_true, if_false, true_and, and_true, and_false, false_and, Classical.not_not, ↓reduceIte, eq_self, Nat.reduceAdd, Nat.reduceMul, bl_nil, z_lt, z_le, z_gt, z_ge, nI_add, nI_mul, nI_sub, L_lt, L_le, L_eq, L_e0, N_ltT, N_ltF, N_leT, N_leF, N_eqT, N_eqF, gs_hit, gs_miss, hR, hn, e1, f1g]
theorem c_lose (hg : g < 3) (hn8 : n ≤ 8) (hR : gR u g w n m) (hn : w 10 = nI n) (hT : cT u g T) : ∃ u', gm_cl' X (d + 3) 18 [.ref (zGC g)] (gt_h u) = some (none, gt_h u') ∧ gR u' g (pLo T n 0 w) n m ∧ fG g u u' := by
  obtain ⟨u', e, h1, h2⟩ := c_loseL (X := X) (d := d) (m := m) (T := T) hg hn8 n 0 u w (.retAddr 0) (.retAddr 0) (by omega) hR hn hT
  refine ⟨u', ?_, h1, h2⟩
  rw [← e, cl_18]
  simp -implicitDefEqProofs (disch := first | (with_reducible first | exact rt_18 | exact na_19 | exact c1_i | exact c1_r | exact of_eq_false nf_zGC | exact of_eq_false nf_zBA | exact of_eq_false nf_zDA | exact of_eq_false nf_zCA | exact of_eq_false nf_zBC | exact of_eq_false nf_zDC | exact of_eq_false nf_zSC | exact of_eq_false nf_zSP | exact of_eq_false nf_zLC | exact of_eq_false nf_zLB | exact of_eq_false nf_zLS | exact of_eq_false nf_zLP | exact of_eq_false nf_zTR) | ((with_reducible refine (k_zGC ?_).trans mc_19.symm) <;> omega) | omega | exact Nat.le_of_ble_eq_true rfl | ((with_reducible refine nI_ne0 ?_ ?_) <;> omega)) only [bk_18_0, tn_0, bl_c0, bl_is1, tn_2, bl_il1, bl_al0, bf_zGC_4, bl_ic_ge, bf_zGC_1, br_zBA, br_zDA, br_2, br_85, br_86, br_121, br_122, bl_as2, bl_al2, bl_iv2, bl_is3, bl_dupi, bl_dupr, bf_zBC_2, bf_zLB_2, bl_il3, bl_isub, bpf_zBC_2, bpf_zLB_2, bf_zGC_13, bl_iadd, bpf_zGC_13, bl_in1_1, bl_goto, bk_18_49, tn_49, bl_rv, Option.bind_some, Option.bind_none, Option.toList_some, Option.toList_none, List.cons_append, List.nil_append, not_false_eq_true, not_true_eq_false, nI_10, nI_00, bI_0, bI_n0, if_true, if_false, true_and, and_true, and_false, false_and, Classical.not_not, ↓reduceIte, eq_self, Nat.reduceAdd, Nat.reduceMul, bl_nil, z_lt, z_le, z_gt, z_ge, nI_add, nI_mul, nI_sub, L_lt, L_le, L_eq, L_e0, N_ltT, N_ltF, N_leT, N_leF, N_eqT, N_eqF, gs_hit, gs_miss]
theorem c_drawnL {v : Int32} (hg : g < 3) (hn8 : n ≤ 8) : ∀ (k i : Nat) (u : gt_M) (w : Nat → Int32) (mi : Int32) (v4 : Value), i + k = n → gR u g w n m → w 10 = nI n → nI 0 ≤ mi → ∃ u', gm_ev X (d + 2) 21 4 [.ref (zGC g), .int v, .int mi, .int (nI i), v4] [] (gt_h u) = some (some (.int (v - (pDr k i w mi).2)), gt_h u') ∧ gR u' g (pDr k i w mi).1 n m ∧ fG g u u' := by
  intro k
  induction k with
  | zero =>
    intro i u w mi v4 hk hR hn h0
    refine ⟨u, ?_, hR, fG_refl⟩
    rw [bk_21_4]
    unfold gR at hR
    simp -implicitDefEqProofs (disch := first | (with_reducible first | exact rt_21 | exact na_5 | exact na_221 | exact c1_i | exact c1_r | exact of_eq_false nf_zGC | exact of_eq_false nf_zBA | exact of_eq_false nf_zDA | exact of_eq_false nf_zCA | exact of_eq_false nf_zBC | exact of_eq_false nf_zDC | exact of_eq_false nf_zSC | exact of_eq_false nf_zSP | exact of_eq_false nf_zLC | exact of_eq_false nf_zLB | exact of_eq_false nf_zLS | exact of_eq_false nf_zLP | exact of_eq_false nf_zTR) | ((with_reducible refine (k_zBC ?_ ?_).trans mc_5.symm) <;> omega) | ((with_reducible refine (k_zLB ?_).trans mc_5.symm) <;> omega) | omega | exact Nat.le_of_ble_eq_true rfl | ((with_reducible refine nI_ne0 ?_ ?_) <;> omega)) only [bk_21_0, tn_0, bl_il1, bl_is2, bl_c0, bl_is3, tn_4, bl_il3, bl_al0, bf_zGC_4, bl_ic_ge, bl_il2, bl_if_le, bf_zGC_1, br_zBA, br_zDA, br_2, br_85, br_86, br_121, br_122, bl_iv1, bl_is_2, bl_is4, bl_dupi, bl_dupr, bf_zBC_2, bf_zLB_2, bl_il4, bl_isub, bpf_zBC_2, bpf_zLB_2, bl_in3_1, bl_goto, bk_21_58, tn_58, bl_ri, bl_rz, bl_rz1, bl_rz0, Option.bind_some, Option.bind_none, Option.toList_some, Option.toList_none, List.cons_append, List.nil_append, not_false_eq_true, not_true_eq_false, nI_10, nI_00, bI_0, bI_n0, if_true, if_false, true_and, and_true, and_false, false_and, Classical.not_not, ↓reduceIte, eq_self, Nat.reduceAdd, Nat.reduceMul, bl_nil, z_lt, z_le, z_gt, z_ge, nI_add, nI_mul, nI_sub, L_lt, L_le, L_eq, L_e0, N_ltT, N_ltF, N_leT, N_leF, N_eqT, N_eqF, gs_hit, gs_miss, hR, hn, pDr]
  | succ k ih =>
    intro i u w mi v4 hk hR hn h0
    by_cases hm : mi ≤ nI 0
    · have hz : mi = nI 0 := Int32.le_antisymm hm h0
      subst hz
      rw [pDr_0]
      refine ⟨u, ?_, hR, fG_refl⟩
      rw [bk_21_4]
      unfold gR at hR
      simp -implicitDefEqProofs (disch := first | (with_reducible first | exact rt_21 | exact na_5 | exact na_221 | exact c1_i | exact c1_r | exact of_eq_false nf_zGC | exact of_eq_false nf_zBA | exact of_eq_false nf_zDA | exact of_eq_false nf_zCA | exact of_eq_false nf_zBC | exact of_eq_false nf_zDC | exact of_eq_false nf_zSC | exact of_eq_false nf_zSP | exact of_eq_false nf_zLC | exact of_eq_false nf_zLB | exact of_eq_false nf_zLS | exact of_eq_false nf_zLP | exact of_eq_false nf_zTR) | ((with_reducible refine (k_zBC ?_ ?_).trans mc_5.symm) <;> omega) | ((with_reducible refine (k_zLB ?_).trans mc_5.symm) <;> omega) | omega | exact Nat.le_of_ble_eq_true rfl | ((with_reducible refine nI_ne0 ?_ ?_) <;> omega)) only [bk_21_0, tn_0, bl_il1, bl_is2, bl_c0, bl_is3, tn_4, bl_il3, bl_al0, bf_zGC_4, bl_ic_ge, bl_il2, bl_if_le, bf_zGC_1, br_zBA, br_zDA, br_2, br_85, br_86, br_121, br_122, bl_iv1, bl_is_2, bl_is4, bl_dupi, bl_dupr, bf_zBC_2, bf_zLB_2, bl_il4, bl_isub, bpf_zBC_2, bpf_zLB_2, bl_in3_1, bl_goto, bk_21_58, tn_58, bl_ri, bl_rz, bl_rz1, bl_rz0, Option.bind_some, Option.bind_none, Option.toList_some, Option.toList_none, List.cons_append, List.nil_append, not_false_eq_true, not_true_eq_false, nI_10, nI_00, bI_0, bI_n0, if_true, if_false, true_and, and_true, and_false, false_and, Classical.not_not, ↓reduceIte, eq_self, Nat.reduceAdd, Nat.reduceMul, bl_nil, z_lt, z_le, z_gt, z_ge, nI_add, nI_mul, nI_sub, L_lt, L_le, L_eq, L_e0, N_ltT, N_ltF, N_leT, N_leF, N_eqT, N_eqF, gs_hit, gs_miss, hR, hn]
    · have hF := fG_set (o := 13 + 4 * i + 2) (x := w (13 + 4 * i + 2) - mnI mi (pDb w i)) (fG_refl (g := g) (u := u)) (by omega)
      obtain ⟨u', e, hR', hF'⟩ := ih (i + 1) (gt_set u g (13 + 4 * i + 2) (w (13 + 4 * i + 2) - mnI mi (pDb w i))) _ (mi - mnI mi (pDb w i)) (.int (mnI mi (pDb w i))) (by omega) (gR_set hR) (by rw [wS_miss (by omega)]; exact hn) (dr_nn h0)
      refine ⟨u', ?_, hR', fG_trans hF hF'⟩
      rw [pDr, ← e, bk_21_4]
      unfold gR at hR
      unfold pDb
      simp -implicitDefEqProofs (disch := first | (with_reducible first | exact rt_21 | exact na_5 | exact na_221 | exact c1_i | exact c1_r | exact of_eq_false nf_zGC | exact of_eq_false nf_zBA | exact of_eq_false nf_zDA | exact of_eq_false nf_zCA | exact of_eq_false nf_zBC | exact of_eq_false nf_zDC | exact of_eq_false nf_zSC | exact of_eq_false nf_zSP | exact of_eq_false nf_zLC | exact of_eq_false nf_zLB | exact of_eq_false nf_zLS | exact of_eq_false nf_zLP | exact of_eq_false nf_zTR) | ((with_reducible refine (k_zBC ?_ ?_).trans mc_5.symm) <;> omega) | ((with_reducible refine (k_zLB ?_).trans mc_5.symm) <;> omega) | omega | exact Nat.le_of_ble_eq_true rfl | ((with_reducible refine nI_ne0 ?_ ?_) <;> omega)) only [bk_21_0, tn_0, bl_il1, bl_is2, bl_c0, bl_is3, tn_4, bl_il3, bl_al0, bf_zGC_4, bl_ic_ge, bl_il2, bl_if_le, bf_zGC_1, br_zBA, br_zDA, br_2, br_85, br_86, br_121, br_122, bl_iv1, bl_is_2, bl_is4, bl_dupi, bl_dupr, bf_zBC_2, bf_zLB_2, bl_il4, bl_isub, bpf_zBC_2, bpf_zLB_2, bl_in3_1, bl_goto, bk_21_58, tn_58, bl_ri, bl_rz, bl_rz1, bl_rz0, Option.bind_some, Option.bind_none, Option.toList_some, Option.toList_none, List.cons_append, List.nil_append, not_false_eq_true, not_true_eq_false, nI_10, nI_00, bI_0, bI_n0, if_true, if_false, true_and, and_true, and_false, false_and, Classical.not_not, ↓reduceIte, eq_self, Nat.reduceAdd, Nat.reduceMul, bl_nil, z_lt, z_le, z_gt, z_ge, nI_add, nI_mul, nI_sub, L_lt, L_le, L_eq, L_e0, N_ltT, N_ltF, N_leT, N_leF, N_eqT, N_eqF, gs_hit, gs_miss, hR, hn, hm, c_drawable, c_min]
theorem c_drawn {v : Int32} (hg : g < 3) (hn8 : n ≤ 8) (hR : gR u g w n m) (hn : w 10 = nI n) (h0 : nI 0 ≤ v) : ∃ u', gm_cl' X (d + 2) 21 [.ref (zGC g), .int v] (gt_h u) = some (some (.int (v - (pDr n 0 w v).2)), gt_h u') ∧ gR u' g (pDr n 0 w v).1 n m ∧ fG g u u' := by
  obtain ⟨u', e, h1, h2⟩ := c_drawnL (X := X) (d := d) (v := v) (m := m) hg hn8 n 0 u w v (.retAddr 0) (by omega) hR hn h0
  refine ⟨u', ?_, h1, h2⟩
  rw [← e, cl_21]
  simp -implicitDefEqProofs (disch := first | (with_reducible first | exact rt_21 | exact na_5 | exact na_221 | exact c1_i | exact c1_r | exact of_eq_false nf_zGC | exact of_eq_false nf_zBA | exact of_eq_false nf_zDA | exact of_eq_false nf_zCA | exact of_eq_false nf_zBC | exact of_eq_false nf_zDC | exact of_eq_false nf_zSC | exact of_eq_false nf_zSP | exact of_eq_false nf_zLC | exact of_eq_false nf_zLB | exact of_eq_false nf_zLS | exact of_eq_false nf_zLP | exact of_eq_false nf_zTR) | ((with_reducible refine (k_zBC ?_ ?_).trans mc_5.symm) <;> omega) | ((with_reducible refine (k_zLB ?_).trans mc_5.symm) <;> omega) | omega | exact Nat.le_of_ble_eq_true rfl | ((with_reducible refine nI_ne0 ?_ ?_) <;> omega)) only [bk_21_0, tn_0, bl_il1, bl_is2, bl_c0, bl_is3, tn_4, bl_il3, bl_al0, bf_zGC_4, bl_ic_ge, bl_il2, bl_if_le, bf_zGC_1, br_zBA, br_zDA, br_2, br_85, br_86, br_121, br_122, bl_iv1, bl_is_2, bl_is4, bl_dupi, bl_dupr, bf_zBC_2, bf_zLB_2, bl_il4, bl_isub, bpf_zBC_2, bpf_zLB_2, bl_in3_1, bl_goto, bk_21_58, tn_58, bl_ri, bl_rz, bl_rz1, bl_rz0, Option.bind_some, Option.bind_none, Option.toList_some, Option.toList_none, List.cons_append, List.nil_append, not_false_eq_true, not_true_eq_false, nI_10, nI_00, bI_0, bI_n0, if_true, if_false, true_and, and_true, and_false, false_and, Classical.not_not, ↓reduceIte, eq_self, Nat.reduceAdd, Nat.reduceMul, bl_nil, z_lt, z_le, z_gt, z_ge, nI_add, nI_mul, nI_sub, L_lt, L_le, L_eq, L_e0, N_ltT, N_ltF, N_leT, N_leF, N_eqT, N_eqF, gs_hit, gs_miss]
end C21
